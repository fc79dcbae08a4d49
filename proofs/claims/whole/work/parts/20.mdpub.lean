/-! ===== the reference: publish, compare ===== -/
/-- two states that say the same to every later call -/
def Vw (S S' : MS) : Prop := (S'.1 0 = S.1 0 ∧ S'.1 4 = S.1 4 ∧ S'.1 17 = S.1 17 ∧ S'.1 18 = S.1 18) ∧ (∀ k, k ≠ 3 → k ≠ 20 → k ≠ 21 → k ≠ 22 → k ≠ 23 → k ≠ 24 → k ≠ 26 → S'.2 k = S.2 k) ∧ (∀ e, e < 20 → S'.2 20 e = S.2 20 e ∧ S'.2 21 e = S.2 21 e ∧ S'.2 22 e = S.2 22 e)
theorem Vw.rfl' {S : MS} : Vw S S := ⟨⟨rfl, rfl, rfl, rfl⟩, fun _ _ _ _ _ _ _ _ => rfl, fun _ _ => ⟨rfl, rfl, rfl⟩⟩
theorem Vw.trans {S S' S'' : MS} (h : Vw S S') (h' : Vw S' S'') : Vw S S'' := by
  obtain ⟨⟨a1, a2, a3, a4⟩, b, c⟩ := h
  obtain ⟨⟨d1, d2, d3, d4⟩, e, f⟩ := h'
  exact ⟨⟨d1.trans a1, d2.trans a2, d3.trans a3, d4.trans a4⟩, fun k k1 k2 k3 k4 k5 k6 k7 => (e k k1 k2 k3 k4 k5 k6 k7).trans (b k k1 k2 k3 k4 k5 k6 k7), fun x hx => ⟨(f x hx).1.trans (c x hx).1, (f x hx).2.1.trans (c x hx).2.1, (f x hx).2.2.trans (c x hx).2.2⟩⟩
theorem Vw.of {S S' : MS} (h0 : S'.1 0 = S.1 0) (h4 : S'.1 4 = S.1 4) (h17 : S'.1 17 = S.1 17) (h18 : S'.1 18 = S.1 18) (h : ∀ k, k ≠ 3 → k ≠ 24 → k ≠ 26 → S'.2 k = S.2 k) : Vw S S' :=
  ⟨⟨h0, h4, h17, h18⟩, fun k k1 _ _ _ _ k6 k7 => h k k1 k6 k7, fun e _ => ⟨by rw [h 20 (by decide) (by decide) (by decide)], by rw [h 21 (by decide) (by decide) (by decide)], by rw [h 22 (by decide) (by decide) (by decide)]⟩⟩
theorem Sc.vw {S S' : MS} (h : Sc S S') : Vw S S' := Vw.of (h.1 0 (by decide) (by decide) (by decide)) (h.1 4 (by decide) (by decide) (by decide)) (h.1 17 (by decide) (by decide) (by decide)) (h.1 18 (by decide) (by decide) (by decide)) (fun k _ k2 k3 => h.2 k k2 k3)
/-- the line is taken -/
def tkS (S : MS) : MS := (va_up S.1 0 0, S.2)
/-- what holds behind take: the text t is the line, its length n -/
def Tkn (S S1 : MS) (len : Nat) : Prop := S1.1 = va_up (va_up S.1 2 (nI len)) 0 0 ∧ (∀ j, j ≠ 3 → S1.2 j = S.2 j) ∧ ∀ j, j < len → S1.2 3 j = S.2 1 j
theorem Tkn.vw {S S1 : MS} {len : Nat} (h : Tkn S S1 len) : Vw (tkS S) S1 := by
  obtain ⟨h1, h2, -⟩ := h
  refine Vw.of ?_ ?_ ?_ ?_ (fun k k1 _ _ => h2 k k1) <;> rw [h1] <;> simp [tkS, va_up]
theorem Tkn.n {S S1 : MS} {len : Nat} (h : Tkn S S1 len) : S1.1 2 = nI len := by rw [h.1]; simp [va_up]
theorem Tkn.fx {S S1 : MS} {len : Nat} (h : Tkn S S1 len) (x : Int32) : fx (S1.2 3) x 0 len = fx (S.2 1) x 0 len := fx_congr (fun k _ k2 => h.2.2 k (by omega))
/-- artifact x has the name c 0 .. q -/
def NmEq (S : MS) (x : Nat) (c : Nat → Int32) (q : Nat) : Prop := S.2 7 x = nI q ∧ ∀ k, k < q → S.2 6 (x * 21 + k) = c k
/-- artifact x is not retired and has this name and an equal version -/
def DupP (S : MS) (c : Nat → Int32) (q len x : Nat) : Prop := S.2 8 x = 0 ∧ NmEq S x c q ∧ vord (avr S x (tc S x)) (vl S x) (sh c (q + 1)) (len - (q + 1)) = 0
section MDU
variable (h : hp_H) (m : Nat)
theorem md_pub_45 {S0 : MS} {q len N : Nat} (hlen : len ≤ 40) (hq : q + 1 ≤ len) (h2 : S0.1 2 = nI len) (h4 : S0.1 4 = nI N) (hN : N ≤ 20) (hv : VrP (S0.2 3) (q + 1) len) (hV : ∀ i, i < N → ArtV S0 i) : ∀ (f x : Nat) (S : MS), Sc S0 S → x ≤ N → N - x < f →
    ((∃ y, x ≤ y ∧ y < N ∧ DupP S0 (S0.2 3) q len y) ∧ ∃ S', f_MD_publish_L45 f m (nI q) (nI x) (md_set h m S) = some (-1, md_set h m S') ∧ Sc S0 S') ∨
    ((¬ ∃ y, x ≤ y ∧ y < N ∧ DupP S0 (S0.2 3) q len y) ∧ ∃ S', f_MD_publish_L45 f m (nI q) (nI x) (md_set h m S) = (if N = 20 then some (-2, md_set h m S') else f_MD_publish_L108 FU m (nI q) 0 (md_set h m S')) ∧ Sc S0 S') := by
  intro f
  induction f with
  | zero => intro x S _ _ hf; omega
  | succ f ih =>
    intro x S hs hx hf
    simp only [f_MD_publish_L45, md_i4, Option.bind_some, show S.1 4 = nI N by rw [hs.1 4 (by decide) (by decide) (by decide)]; exact h4]
    by_cases hlt : x < N
    · rw [if_neg (nI_ge hlt (by omega))]
      simp only [md_r8, md_a8, Option.bind_some, hp_ix_nI (show x < 20 by omega) (by decide), Option.map_some]
      have hvx : ArtV S x := (hV x hlt).sc hs
      have e8 := hs.2 8 (by decide) (by decide)
      have e3 := hs.2 3 (by decide) (by decide)
      have skip : ¬ DupP S0 (S0.2 3) q len x → ∀ S1 : MS, Sc S0 S1 → (((∃ y, x ≤ y ∧ y < N ∧ DupP S0 (S0.2 3) q len y) ∧ ∃ S', f_MD_publish_L45 f m (nI q) (nI x + 1) (md_set h m S1) = some (-1, md_set h m S') ∧ Sc S0 S') ∨
    ((¬ ∃ y, x ≤ y ∧ y < N ∧ DupP S0 (S0.2 3) q len y) ∧ ∃ S', f_MD_publish_L45 f m (nI q) (nI x + 1) (md_set h m S1) = (if N = 20 then some (-2, md_set h m S') else f_MD_publish_L108 FU m (nI q) 0 (md_set h m S')) ∧ Sc S0 S')) := by
        intro hno S1 hs1
        rw [nI_1]
        rcases ih (x + 1) S1 hs1 (by omega) (by omega) with ⟨⟨y, y1, y2, y3⟩, r⟩ | ⟨r1, r⟩
        · exact Or.inl ⟨⟨y, by omega, y2, y3⟩, r⟩
        · refine Or.inr ⟨fun ⟨y, y1, y2, y3⟩ => ?_, r⟩
          by_cases hyx : y = x
          · subst hyx; exact hno y3
          · exact r1 ⟨y, by omega, y2, y3⟩
      by_cases hret : S.2 8 x = 0
      · rw [if_pos hret]
        simp only [md_o, Option.bind_some]
        rw [md_hasName h m hvx.1 (by omega)]
        simp only [md_o, md_i2, Option.bind_some, show S.1 2 = nI len by rw [hs.1 2 (by decide) (by decide) (by decide)]; exact h2]
        by_cases hnm : HasNm S x q
        · rw [if_neg (fun z => zi_eq0.mp z hnm), show nI q + 1 = nI (q + 1) from nI_1 q]
          obtain ⟨S1, e1, e2⟩ := md_orderTo' h m hvx.1 hvx.ver hlen (a := q + 1) (b := len) (by rw [e3]; exact hv)
          rw [e1]
          simp only [Option.bind_some]
          have hs1 := hs.trans e2
          have hnm0 : NmEq S0 x (S0.2 3) q := (HasNm.sc hs x q).mp hnm
          have hvo : vord (avr S x (tc S x)) (tl S x - (tc S x + 1)) (sh (S.2 3) (q + 1)) (len - (q + 1)) = vord (avr S0 x (tc S0 x)) (vl S0 x) (sh (S0.2 3) (q + 1)) (len - (q + 1)) := by
            rw [e3, avr_sc hs, tc_sc hs, tl_sc hs]; rfl
          rw [hvo]
          by_cases ho : vord (avr S0 x (tc S0 x)) (vl S0 x) (sh (S0.2 3) (q + 1)) (len - (q + 1)) = 0
          · rw [if_pos ho]
            exact Or.inl ⟨⟨x, Nat.le_refl _, hlt, by rw [← e8]; exact hret, hnm0, ho⟩, S1, rfl, hs1⟩
          · rw [if_neg ho]
            exact skip (fun z => ho z.2.2) S1 hs1
        · rw [if_pos (zi_eq0.mpr hnm)]
          exact skip (fun z => hnm ((HasNm.sc hs x q).mpr z.2.1)) S hs
      · rw [if_neg hret]
        exact skip (fun z => hret (by rw [e8]; exact z.1)) S hs
    · have hkN : x = N := by omega
      subst hkN
      rw [if_pos (nI_le (Nat.le_refl _) (by omega))]
      refine Or.inr ⟨fun ⟨y, y1, y2, _⟩ => by omega, S, ?_, hs⟩
      by_cases h20 : x = 20
      · rw [if_pos h20, if_pos (by rw [h20]; rfl)]
      · rw [if_neg h20, if_neg (show ¬ nI x = (20 : Int32) from fun z => h20 ((nI_eq (b := 20) (by omega) (by omega)).mp z))]
theorem md_pub_108 {q len N : Nat} (hlen : len ≤ 21) (hN : N < 20) : ∀ (f k : Nat) (S : MS), S.1 2 = nI len → S.1 4 = nI N → k ≤ len → len - k < f → ∃ S' : MS, f_MD_publish_L108 f m (nI q) (nI k) (md_set h m S) = some (nI N, md_set h m S') ∧ S'.1 = va_up S.1 4 (nI (N + 1)) ∧ (∀ j, j ≠ 5 → j ≠ 6 → j ≠ 7 → S'.2 j = S.2 j) ∧ S'.2 5 = va_up (S.2 5) N (nI len) ∧ S'.2 7 = va_up (S.2 7) N (nI q) ∧ (∀ j, (j < N * 21 + k ∨ N * 21 + len ≤ j) → S'.2 6 j = S.2 6 j) ∧ ∀ j, k ≤ j → j < len → S'.2 6 (N * 21 + j) = S.2 3 j := by
  intro f
  induction f with
  | zero => intro k S _ _ _ hn; omega
  | succ f ih =>
    intro k S h2 h4 hk hn
    simp only [f_MD_publish_L108, md_i2, md_i4, Option.bind_some, h2, h4]
    by_cases hlt : k < len
    · rw [if_neg (nI_ge hlt (by omega)), show nI N * 21 + nI k = nI (N * 21 + k) by rw [show (21 : Int32) = nI 21 from rfl, pk_mul, nI_add]]
      simp only [md_r3, md_r6, md_a3, md_s6, Option.bind_some, hp_ix_nI (show k < 40 by omega) (by decide), hp_ix_nI (show N * 21 + k < 420 by omega) (by decide), Option.map_some]
      rw [nI_1]
      obtain ⟨S', e1, e2, e3, e4, e5, e6, e7⟩ := ih (k + 1) (S.1, va_up S.2 6 (va_up (S.2 6) (N * 21 + k) (S.2 3 k))) h2 h4 (by omega) (by omega)
      refine ⟨S', e1, e2, fun j j1 j2 j3 => ?_, ?_, ?_, fun j hj => ?_, fun j j1 j2 => ?_⟩
      · rw [e3 j j1 j2 j3]; exact va_up_ne _ _ j2
      · rw [e4]; simp [va_up]
      · rw [e5]; simp [va_up]
      · rw [e6 j (by omega)]; simp [va_up, show ¬ j = N * 21 + k by omega]
      · by_cases hjk : j = k
        · subst hjk; rw [e6 (N * 21 + j) (by omega)]; simp [va_up]
        · rw [e7 j (by omega) j2]; simp [va_up]
    · have hkN : k = len := by omega
      subst hkN
      rw [if_pos (nI_le (Nat.le_refl _) (by omega))]
      simp only [md_r5, md_s5, md_r7, md_s7, md_i4, md_w4, h4, Option.bind_some, hp_ix_nI (show N < 20 by omega) (by decide), Option.map_some, va_up_self]
      rw [nI_1, show nI (N + 1) - 1 = nI N from nI_pred N]
      refine ⟨_, rfl, rfl, fun j j1 j2 j3 => ?_, ?_, ?_, fun j hj => ?_, fun j j1 j2 => absurd j2 (by omega)⟩
      · simp [va_up, j1, j3]
      · simp [va_up]
      · simp [va_up]
      · simp [va_up]
/-- the state behind a publish that took -/
def PubT (S S' : MS) (N len q : Nat) : Prop := (S'.1 0 = 0 ∧ S'.1 4 = nI (N + 1) ∧ S'.1 17 = S.1 17 ∧ S'.1 18 = S.1 18) ∧ (∀ k, k ≠ 3 → k ≠ 5 → k ≠ 6 → k ≠ 7 → k ≠ 24 → k ≠ 26 → S'.2 k = S.2 k) ∧ S'.2 5 = va_up (S.2 5) N (nI len) ∧ S'.2 7 = va_up (S.2 7) N (nI q) ∧ (∀ j, (j < N * 21 ∨ N * 21 + len ≤ j) → S'.2 6 j = S.2 6 j) ∧ ∀ j, j < len → S'.2 6 (N * 21 + j) = S.2 1 j
theorem md_publish {S : MS} {len N : Nat} (hlen : len ≤ 40) (h0 : S.1 0 = nI len) (h4 : S.1 4 = nI N) (hN : N ≤ 20) (hV : ∀ i, i < N → ArtV S i) :
    (¬ (NmP (S.2 1) 0 (fx (S.2 1) 58 0 len) ∧ fx (S.2 1) 58 0 len ≠ len ∧ VrP (S.2 1) (fx (S.2 1) 58 0 len + 1) len) → ∃ S', f_MD_publish (md_set h m S) m = some (-3, md_set h m S') ∧ Vw (tkS S) S') ∧
    ((NmP (S.2 1) 0 (fx (S.2 1) 58 0 len) ∧ fx (S.2 1) 58 0 len ≠ len ∧ VrP (S.2 1) (fx (S.2 1) 58 0 len + 1) len) →
      ((∃ y, y < N ∧ DupP S (S.2 1) (fx (S.2 1) 58 0 len) len y) → ∃ S', f_MD_publish (md_set h m S) m = some (-1, md_set h m S') ∧ Vw (tkS S) S') ∧
      ((¬ ∃ y, y < N ∧ DupP S (S.2 1) (fx (S.2 1) 58 0 len) len y) → N = 20 → ∃ S', f_MD_publish (md_set h m S) m = some (-2, md_set h m S') ∧ Vw (tkS S) S') ∧
      ((¬ ∃ y, y < N ∧ DupP S (S.2 1) (fx (S.2 1) 58 0 len) len y) → N ≠ 20 → ∃ S', f_MD_publish (md_set h m S) m = some (nI N, md_set h m S') ∧ PubT S S' N len (fx (S.2 1) 58 0 len))) := by
  obtain ⟨S1, t1, t2, t3, t4⟩ := md_take h m hlen h0
  have hT : Tkn S S1 len := ⟨t2, t3, t4⟩
  obtain ⟨g1, g2, g3, g4⟩ := fx_spec (S.2 1) 58 len 0
  have hfx := hT.fx 58
  have hnm : NmP (S1.2 3) 0 (fx (S.2 1) 58 0 len) ↔ NmP (S.2 1) 0 (fx (S.2 1) 58 0 len) := NmP_congr (fun k _ k2 => t4 k (by omega))
  have hvr : VrP (S1.2 3) (fx (S.2 1) 58 0 len + 1) len ↔ VrP (S.2 1) (fx (S.2 1) 58 0 len + 1) len := VrP_congr (fun k _ k2 => t4 k (by omega))
  have start : f_MD_publish (md_set h m S) m = (if zi (NmP (S.2 1) 0 (fx (S.2 1) 58 0 len)) = 0 then some (-3, md_set h m S1) else if nI (fx (S.2 1) 58 0 len) = nI len then some (-3, md_set h m S1) else if zi (VrP (S.2 1) (fx (S.2 1) 58 0 len + 1) len) = 0 then some (-3, md_set h m S1) else f_MD_publish_L45 FU m (nI (fx (S.2 1) 58 0 len)) 0 (md_set h m S1)) := by
    unfold f_MD_publish
    rw [md_o, Option.bind_some, t1, Option.bind_some, md_o, Option.bind_some, md_colonAt h m S1 hlen hT.n, hfx, Option.bind_some, md_o, Option.bind_some, show (0 : Int32) = nI 0 from rfl, md_isName h m S1 (Nat.zero_le _) (by omega), Option.bind_some, zi_congr hnm]
    split
    · rfl
    · simp only [md_i2, Option.bind_some, hT.n]
      split
      · rfl
      · rename_i hne
        have hq : fx (S.2 1) 58 0 len + 1 ≤ 40 := by
          rcases Nat.lt_or_ge (fx (S.2 1) 58 0 len) len with z | z
          · omega
          · exact absurd (by rw [show fx (S.2 1) 58 0 len = len by omega]) hne
        rw [md_o, Option.bind_some, show nI (fx (S.2 1) 58 0 len) + 1 = nI (fx (S.2 1) 58 0 len + 1) from nI_1 _, md_isVersion h m S1 hq hlen, Option.bind_some, zi_congr hvr]
  generalize fx (S.2 1) 58 0 len = q at g1 g2 g3 g4 hfx hnm hvr start ⊢
  refine ⟨fun hbad => ⟨S1, ?_, hT.vw⟩, fun ⟨b1, b2, b3⟩ => ?_⟩
  · rw [start]
    by_cases a1 : NmP (S.2 1) 0 q
    · rw [if_neg (fun z => zi_eq0.mp z a1)]
      by_cases a2 : q = len
      · rw [if_pos (by rw [a2])]
      · rw [if_neg (by rw [nI_eq (by omega) (by omega)]; exact a2), if_pos (zi_eq0.mpr (fun a3 => hbad ⟨a1, a2, a3⟩))]
    · rw [if_pos (zi_eq0.mpr a1)]
  · have hgo : f_MD_publish (md_set h m S) m = f_MD_publish_L45 FU m (nI q) 0 (md_set h m S1) := by
      rw [start, if_neg (fun z => zi_eq0.mp z b1), if_neg (by rw [nI_eq (by omega) (by omega)]; exact b2), if_neg (fun z => zi_eq0.mp z b3)]
    have e4 : S1.1 4 = nI N := by rw [t2]; simp [va_up, h4]
    have hsV : ∀ i, i < N → ArtV S1 i := fun i hi => by
      have := hV i hi
      unfold ArtV ArtT tl tc at this ⊢
      rw [t3 5 (by decide), t3 6 (by decide), t3 7 (by decide)]
      exact this
    have hdup : ∀ y, DupP S1 (S1.2 3) q len y ↔ DupP S (S.2 1) q len y := by
      intro y
      unfold DupP NmEq avr vl tl tc
      rw [t3 5 (by decide), t3 6 (by decide), t3 7 (by decide), t3 8 (by decide), vord_congr (N := (S.2 5 y).toNatClampNeg - ((S.2 7 y).toNatClampNeg + 1)) (fun _ _ => rfl) (N' := len - (q + 1)) (v' := sh (S1.2 3) (q + 1)) (w' := sh (S.2 1) (q + 1)) (fun j hj => t4 (q + 1 + j) (by omega))]
      refine and_congr Iff.rfl (and_congr (and_congr Iff.rfl ⟨fun z k hk => ?_, fun z k hk => ?_⟩) Iff.rfl)
      · rw [← t4 k (by omega)]; exact z k hk
      · rw [t4 k (by omega)]; exact z k hk
    have main := md_pub_45 h m hlen (by omega) hT.n e4 hN (hvr.mpr b3) hsV FU 0 S1 Sc.rfl' (Nat.zero_le _) (FU_big (by omega))
    rw [nI_0, ← hgo] at main
    have ex : (∃ y, 0 ≤ y ∧ y < N ∧ DupP S1 (S1.2 3) q len y) ↔ ∃ y, y < N ∧ DupP S (S.2 1) q len y := ⟨fun ⟨y, _, y2, y3⟩ => ⟨y, y2, (hdup y).mp y3⟩, fun ⟨y, y2, y3⟩ => ⟨y, Nat.zero_le _, y2, (hdup y).mpr y3⟩⟩
    rw [ex] at main
    refine ⟨fun hd => ?_, fun hd h20 => ?_, fun hd h20 => ?_⟩
    · rcases main with ⟨_, S', r1, r2⟩ | ⟨r, _⟩
      · exact ⟨S', r1, hT.vw.trans r2.vw⟩
      · exact absurd hd r
    · rcases main with ⟨r, _⟩ | ⟨_, S', r1, r2⟩
      · exact absurd r hd
      · rw [if_pos h20] at r1
        exact ⟨S', r1, hT.vw.trans r2.vw⟩
    · rcases main with ⟨r, _⟩ | ⟨_, S2, r1, r2⟩
      · exact absurd r hd
      · rw [if_neg h20] at r1
        have hl21 : len ≤ 21 := by have := b1.2.1; have := b3.2.1; omega
        have n2 : S2.1 2 = nI len := by rw [r2.1 2 (by decide) (by decide) (by decide)]; exact hT.n
        have n4 : S2.1 4 = nI N := by rw [r2.1 4 (by decide) (by decide) (by decide)]; exact e4
        obtain ⟨S', p1, p2, p3, p4, p5, p6, p7⟩ := md_pub_108 h m (q := q) hl21 (show N < 20 by omega) FU 0 S2 n2 n4 (Nat.zero_le _) (FU_big (by omega))
        rw [nI_0] at p1
        refine ⟨S', r1.trans p1, ⟨?_, ?_, ?_, ?_⟩, fun k k3 k5 k6 k7 k24 k26 => ?_, ?_, ?_, fun j hj => ?_, fun j hj => ?_⟩
        · rw [p2, va_up_ne _ _ (by decide), r2.1 0 (by decide) (by decide) (by decide), t2]; simp [va_up]
        · rw [p2, va_up_self]
        · rw [p2, va_up_ne _ _ (by decide), r2.1 17 (by decide) (by decide) (by decide), t2]; simp [va_up]
        · rw [p2, va_up_ne _ _ (by decide), r2.1 18 (by decide) (by decide) (by decide), t2]; simp [va_up]
        · rw [p3 k k5 k6 k7, r2.2 k k24 k26, t3 k k3]
        · rw [p4, r2.2 5 (by decide) (by decide), t3 5 (by decide)]
        · rw [p5, r2.2 7 (by decide) (by decide), t3 7 (by decide)]
        · rw [p6 j (by omega), r2.2 6 (by decide) (by decide), t3 6 (by decide)]
        · rw [p7 j (Nat.zero_le _) hj, r2.2 3 (by decide) (by decide), t4 j hj]
end MDU
