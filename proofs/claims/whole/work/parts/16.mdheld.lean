/-! ===== the reference: which version, which name ===== -/
theorem rn_congr {v w : Nat → Int32} {d : Prop} : ∀ (n k : Nat), (∀ j, k ≤ j → j < k + n → v j = w j) → rn v d k n = rn w d k n
  | 0, k, _ => rfl
  | n + 1, k, h => by
    rw [rn, rn, h k (Nat.le_refl _) (by omega), rn_congr n (k + 1) (fun j j1 j2 => h j (by omega) (by omega))]
theorem pts_congr {v w : Nat → Int32} {N : Nat} (h : ∀ j, j < N → v j = w j) : ∀ (n k : Nat), pts v N n k = pts w N n k
  | 0, k => rfl
  | n + 1, k => by
    rw [pts, pts]
    by_cases hk : N ≤ k
    · rw [if_pos hk, if_pos hk]
    · rw [if_neg hk, if_neg hk, h k (by omega), pts_congr h n (k + 1), rn_congr (N - (k + 1)) (k + 1) (fun j j1 j2 => h j (by omega)), pts_congr h n _]
theorem dv_congr {v w : Nat → Int32} : ∀ (n k : Nat) (a : Int64), (∀ j, k ≤ j → j < k + n → v j = w j) → dv v n k a = dv w n k a
  | 0, k, a, _ => rfl
  | n + 1, k, a, h => by rw [dv, dv, h k (Nat.le_refl _) (by omega), dv_congr n (k + 1) _ (fun j j1 j2 => h j (by omega) (by omega))]
theorem wv_congr {v w : Nat → Int32} : ∀ (n k : Nat) (t a : Int64), (∀ j, k ≤ j → j < k + n → v j = w j) → wv v n k t a = wv w n k t a
  | 0, k, t, a, _ => rfl
  | n + 1, k, t, a, h => by rw [wv, wv, h k (Nat.le_refl _) (by omega), wv_congr n (k + 1) _ _ (fun j j1 j2 => h j (by omega) (by omega))]
theorem pn_congr {v w : Nat → Int32} {N : Nat} (h : ∀ j, j < N → v j = w j) (p : Nat) : pn v (pv v N p) = pn w (pv w N p) := by
  have e : pv v N p = pv w N p := by unfold pv; rw [pts_congr h]
  rw [← e]
  cases hq : pv v N p with
  | none => rfl
  | some q =>
    obtain ⟨h1, h2, -⟩ := pv_spec hq
    simp only [pn]
    rw [h q.1 (by omega), dv_congr _ _ _ (fun j j1 j2 => h j (by omega)), wv_congr _ _ _ _ (fun j j1 j2 => h j (by omega))]
theorem vord_congr {v w v' w' : Nat → Int32} {N N' : Nat} (h : ∀ j, j < N → v j = w j) (h' : ∀ j, j < N' → v' j = w' j) : vord v N v' N' = vord w N w' N' := by
  unfold vord
  rw [show (fun p => pn v (pv v N p)) = (fun p => pn w (pv w N p)) from funext (pn_congr h), show (fun p => pn v' (pv v' N' p)) = (fun p => pn w' (pv w' N' p)) from funext (pn_congr h')]
theorem verP_of {c : Nat → Int32} {a b : Nat} (h : VrP c a b) : VerP (fun j => c (a + j)) (b - a) := by
  obtain ⟨h1, h2, h3, h4⟩ := h
  exact ⟨by omega, fun j hj => (h4 (a + j) (by omega) (by omega)).1, fun _ => h3⟩
theorem verP_congr {v w : Nat → Int32} {N : Nat} (h : ∀ j, j < N → v j = w j) (hv : VerP v N) : VerP w N := by
  obtain ⟨h1, h2, h3⟩ := hv
  exact ⟨h1, fun j hj => by rw [← h j hj]; exact h2 j hj, fun q => by rw [← h 0 q]; exact h3 q⟩
theorem cmpP_r (x y : Nat → Int64) : ∀ (n p : Nat), cmpP x y n p = -1 ∨ cmpP x y n p = 0 ∨ cmpP x y n p = 1
  | 0, p => Or.inr (Or.inl rfl)
  | n + 1, p => by
    rw [cmpP]
    split
    · exact cmpP_r x y n (p + 1)
    · split
      · exact Or.inl rfl
      · exact Or.inr (Or.inr rfl)
/-- what the order's scratch paper leaves as it was -/
def Sc (S S' : MS) : Prop := (∀ k, k ≠ 25 → k ≠ 27 → k ≠ 28 → S'.1 k = S.1 k) ∧ ∀ k, k ≠ 24 → k ≠ 26 → S'.2 k = S.2 k
theorem Sc.rfl' {S : MS} : Sc S S := ⟨fun _ _ _ _ => rfl, fun _ _ _ => rfl⟩
theorem Sc.trans {S S' S'' : MS} (h : Sc S S') (h' : Sc S' S'') : Sc S S'' := ⟨fun k a b c => (h'.1 k a b c).trans (h.1 k a b c), fun k a b => (h'.2 k a b).trans (h.2 k a b)⟩
section MDH
variable (h : hp_H) (m : Nat)
theorem md_firstIs_L {i len : Nat} (hi : i < 20) (hlen : len ≤ 21) : ∀ (n q k : Nat) (S : MS), S.2 5 i = nI len → S.1 25 = nI q → q ≤ k → k ≤ len → len - k < n → ∃ S' : MS, f_MD_firstIs_L14 n m (nI i) (nI k) (md_set h m S) = some (md_set h m S') ∧ S'.1 = va_up S.1 25 (nI (q + (len - k))) ∧ (∀ j, j ≠ 24 → S'.2 j = S.2 j) ∧ (∀ j, j < q → S'.2 24 j = S.2 24 j) ∧ ∀ j, j < len - k → S'.2 24 (q + j) = S.2 6 (i * 21 + (k + j)) := by
  intro n
  induction n with
  | zero => intro q k S _ _ _ _ hn; omega
  | succ n ih =>
    intro q k S hS hq hqk hk hn
    simp only [f_MD_firstIs_L14, md_r5, md_a5, Option.bind_some, hp_ix_nI hi (by decide), Option.map_some, hS]
    by_cases hlt : k < len
    · rw [if_neg (nI_ge hlt (by omega))]
      rw [show nI i * 21 + nI k = nI (i * 21 + k) by rw [show (21 : Int32) = nI 21 from rfl, pk_mul, nI_add]]
      simp only [md_r24, md_i25, md_r6, md_a6, md_s24, md_w25, hq, Option.bind_some, hp_ix_nI (show i * 21 + k < 420 by omega) (by decide), hp_ix_nI (show q < 40 by omega) (by decide), Option.map_some]
      rw [show nI q + 1 = nI (q + 1) from nI_1 q, show nI k + 1 = nI (k + 1) from nI_1 k]
      obtain ⟨S', e1, e2, e3, e4, e5⟩ := ih (q + 1) (k + 1) (va_up S.1 25 (nI (q + 1)), va_up S.2 24 (va_up (S.2 24) q (S.2 6 (i * 21 + k)))) (by simp [va_up, hS]) (by simp [va_up]) (by omega) (by omega) (by omega)
      refine ⟨S', e1, ?_, fun j hj => ?_, fun j hj => ?_, fun j hj => ?_⟩
      · rw [e2]
        show va_up (va_up S.1 25 _) 25 _ = _
        rw [bx_uu, show q + 1 + (len - (k + 1)) = q + (len - k) by omega]
      · rw [e3 j hj]; exact va_up_ne _ _ hj
      · rw [e4 j (by omega)]
        simp [va_up, show ¬ j = q by omega]
      · by_cases hj0 : j = 0
        · subst hj0
          rw [Nat.add_zero, e4 q (by omega)]
          simp [va_up]
        · have := e5 (j - 1) (by omega)
          rw [show q + 1 + (j - 1) = q + j by omega, show k + 1 + (j - 1) = k + j by omega] at this
          rw [this]
          simp [va_up]
    · have hkN : k = len := by omega
      subst hkN
      rw [if_pos (nI_le (Nat.le_refl _) (by omega))]
      refine ⟨S, rfl, ?_, fun _ _ => rfl, fun _ _ => rfl, fun j hj => absurd hj (by omega)⟩
      rw [Nat.sub_self, Nat.add_zero, ← hq]
      funext j
      unfold va_up
      split
      · rename_i hj; rw [hj]
      · rfl
/-- artifact i's text: its length, its colon -/
def ArtT (S : MS) (i len co : Nat) : Prop := i < 20 ∧ S.2 5 i = nI len ∧ S.2 7 i = nI co ∧ co < len ∧ len ≤ 21
theorem md_firstIs {S : MS} {i len co : Nat} (hA : ArtT S i len co) : ∃ S' : MS, f_MD_firstIs (md_set h m S) m (nI i) = some (md_set h m S') ∧ S'.1 = va_up S.1 25 (nI (len - (co + 1))) ∧ (∀ j, j ≠ 24 → S'.2 j = S.2 j) ∧ ∀ j, j < len - (co + 1) → S'.2 24 j = S.2 6 (i * 21 + (co + 1 + j)) := by
  obtain ⟨hi, h5, h7, hc, hl⟩ := hA
  unfold f_MD_firstIs
  simp only [md_w25, md_r7, md_a7, Option.bind_some, hp_ix_nI hi (by decide), Option.map_some, h7]
  rw [show nI co + 1 = nI (co + 1) from nI_1 co]
  obtain ⟨S', e1, e2, e3, -, e5⟩ := md_firstIs_L h m hi hl FU 0 (co + 1) (va_up S.1 25 0, S.2) h5 (by simp [va_up, nI_0]) (by omega) (by omega) (FU_big (by omega))
  refine ⟨S', e1, ?_, e3, fun j hj => ?_⟩
  · rw [e2]
    show va_up (va_up S.1 25 _) 25 _ = _
    rw [bx_uu, Nat.zero_add]
  · have := e5 j hj
    rw [Nat.zero_add] at this
    exact this
theorem md_secondIs_L {b : Nat} (hb : b ≤ 40) : ∀ (n q k : Nat) (S : MS), S.1 27 = nI q → q ≤ k → k ≤ b → b - k < n → ∃ S' : MS, f_MD_secondIs_L7 n m (nI b) (nI k) (md_set h m S) = some (md_set h m S') ∧ S'.1 = va_up S.1 27 (nI (q + (b - k))) ∧ (∀ j, j ≠ 26 → S'.2 j = S.2 j) ∧ (∀ j, j < q → S'.2 26 j = S.2 26 j) ∧ ∀ j, j < b - k → S'.2 26 (q + j) = S.2 3 (k + j) := by
  intro n
  induction n with
  | zero => intro q k S _ _ _ hn; omega
  | succ n ih =>
    intro q k S hq hqk hk hn
    simp only [f_MD_secondIs_L7]
    by_cases hlt : k < b
    · rw [if_neg (nI_ge hlt (by omega))]
      simp only [md_r26, md_i27, md_r3, md_a3, md_s26, md_w27, hq, Option.bind_some, hp_ix_nI (show k < 40 by omega) (by decide), hp_ix_nI (show q < 40 by omega) (by decide), Option.map_some]
      rw [show nI q + 1 = nI (q + 1) from nI_1 q, show nI k + 1 = nI (k + 1) from nI_1 k]
      obtain ⟨S', e1, e2, e3, e4, e5⟩ := ih (q + 1) (k + 1) (va_up S.1 27 (nI (q + 1)), va_up S.2 26 (va_up (S.2 26) q (S.2 3 k))) (by simp [va_up]) (by omega) (by omega) (by omega)
      refine ⟨S', e1, ?_, fun j hj => ?_, fun j hj => ?_, fun j hj => ?_⟩
      · rw [e2]
        show va_up (va_up S.1 27 _) 27 _ = _
        rw [bx_uu, show q + 1 + (b - (k + 1)) = q + (b - k) by omega]
      · rw [e3 j hj]; exact va_up_ne _ _ hj
      · rw [e4 j (by omega)]
        simp [va_up, show ¬ j = q by omega]
      · by_cases hj0 : j = 0
        · subst hj0
          rw [Nat.add_zero, e4 q (by omega)]
          simp [va_up]
        · have := e5 (j - 1) (by omega)
          rw [show q + 1 + (j - 1) = q + j by omega, show k + 1 + (j - 1) = k + j by omega] at this
          rw [this]
          simp [va_up]
    · have hkN : k = b := by omega
      subst hkN
      rw [if_pos (nI_le (Nat.le_refl _) (by omega))]
      refine ⟨S, rfl, ?_, fun _ _ => rfl, fun _ _ => rfl, fun j hj => absurd hj (by omega)⟩
      rw [Nat.sub_self, Nat.add_zero, ← hq]
      funext j
      unfold va_up
      split
      · rename_i hj; rw [hj]
      · rfl
theorem md_secondIs {S : MS} {a b : Nat} (hb : b ≤ 40) (hab : a ≤ b) : ∃ S' : MS, f_MD_secondIs (md_set h m S) m (nI a) (nI b) = some (md_set h m S') ∧ S'.1 = va_up S.1 27 (nI (b - a)) ∧ (∀ j, j ≠ 26 → S'.2 j = S.2 j) ∧ ∀ j, j < b - a → S'.2 26 j = S.2 3 (a + j) := by
  unfold f_MD_secondIs
  simp only [md_w27, Option.bind_some]
  obtain ⟨S', e1, e2, e3, -, e5⟩ := md_secondIs_L h m hb FU 0 a (va_up S.1 27 0, S.2) (by simp [va_up, nI_0]) (by omega) hab (FU_big (by omega))
  refine ⟨S', e1, ?_, e3, fun j hj => ?_⟩
  · rw [e2]
    show va_up (va_up S.1 27 _) 27 _ = _
    rw [bx_uu, Nat.zero_add]
  · have := e5 j hj
    rw [Nat.zero_add] at this
    exact this
/-- the version of artifact i, as its text has it -/
def avr (S : MS) (i co : Nat) : Nat → Int32 := fun j => S.2 6 (i * 21 + (co + 1 + j))
theorem md_orderTo {S : MS} {i len co a b : Nat} (hA : ArtT S i len co) (hv : VerP (avr S i co) (len - (co + 1))) (hb : b ≤ 40) (hab : a ≤ b) (hw : VerP (fun j => S.2 3 (a + j)) (b - a)) : ∃ S' : MS, f_MD_orderTo (md_set h m S) m (nI i) (nI a) (nI b) = some (vord (avr S i co) (len - (co + 1)) (fun j => S.2 3 (a + j)) (b - a), md_set h m S') ∧ Sc S S' := by
  unfold f_MD_orderTo
  obtain ⟨S1, e1, e2, e3, e4⟩ := md_firstIs h m hA
  obtain ⟨S2, g1, g2, g3, g4⟩ := md_secondIs (S := S1) h m hb hab
  simp only [md_o, Option.bind_some, e1, g1]
  have v24 : ∀ j, j < len - (co + 1) → avr S i co j = S2.2 24 j := fun j hj => by rw [g3 24 (by decide), e4 j hj]; rfl
  have v26 : ∀ j, j < b - a → (fun j => S.2 3 (a + j)) j = S2.2 26 j := fun j hj => by rw [g4 j hj, e3 3 (by decide)]
  obtain ⟨e', o1⟩ := md_order h m S2 (verP_congr v24 hv) (verP_congr v26 hw) (by rw [g2, e2, va_up_ne _ _ (by decide), va_up_self]) (by rw [g2, va_up_self])
  rw [o1]
  simp only [Option.bind_some]
  refine ⟨_, by rw [vord_congr v24 v26], fun k k1 k2 k3 => ?_, fun k k1 k2 => ?_⟩
  · show va_up S2.1 28 e' k = _
    rw [va_up_ne _ _ k3, g2, va_up_ne _ _ k2, e2, va_up_ne _ _ k1]
  · show S2.2 k = _
    rw [g3 k k2, e3 k k1]
end MDH
