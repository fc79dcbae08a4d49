/-! ===== the reference: compare, depend, exclude, pack, retire ===== -/
section MDV
variable (h : hp_H) (m : Nat)
theorem md_cmp_50 {q len : Nat} (hq : q + 1 ≤ len) (hlen : len ≤ 40) : ∀ (f k : Nat) (S : MS), S.1 2 = nI len → S.1 25 = nI q → VerP (S.2 3) q → VerP (sh (S.2 3) (q + 1)) (len - (q + 1)) → k ≤ q → q - k < f → (∀ j, j < k → S.2 24 j = S.2 3 j) → ∃ S' : MS, f_MD_compare_L50 f m (nI q) (nI k) (md_set h m S) = some (3 + vord (S.2 3) q (sh (S.2 3) (q + 1)) (len - (q + 1)), md_set h m S') ∧ Sc S S' := by
  intro f
  induction f with
  | zero => intro k S _ _ _ _ _ hn; omega
  | succ f ih =>
    intro k S h2 h25 hv hw hk hn h24
    simp only [f_MD_compare_L50]
    by_cases hlt : k < q
    · rw [if_neg (nI_ge hlt (by omega))]
      simp only [md_r24, md_r3, md_a3, md_s24, Option.bind_some, hp_ix_nI (show k < 40 by omega) (by decide), Option.map_some]
      rw [nI_1]
      have hs : Sc S (S.1, va_up S.2 24 (va_up (S.2 24) k (S.2 3 k))) := ⟨fun _ _ _ _ => rfl, fun j j1 _ => va_up_ne _ _ j1⟩
      have e3 : (va_up S.2 24 (va_up (S.2 24) k (S.2 3 k))) 3 = S.2 3 := va_up_ne _ _ (by decide)
      obtain ⟨S', e1, e2⟩ := ih (k + 1) (S.1, va_up S.2 24 (va_up (S.2 24) k (S.2 3 k))) h2 h25 (by simp only [e3]; exact hv) (by simp only [e3]; exact hw) (by omega) (by omega) (fun j hj => by
        simp only [e3]
        by_cases hjk : j = k
        · subst hjk; simp [va_up]
        · simp [va_up, hjk, h24 j (by omega)])
      simp only [e3] at e1
      exact ⟨S', e1, hs.trans e2⟩
    · have hkN : k = q := by omega
      subst hkN
      rw [if_pos (nI_le (Nat.le_refl _) (by omega))]
      simp only [md_i2, md_o, Option.bind_some, h2]
      rw [show nI k + 1 = nI (k + 1) from nI_1 k]
      obtain ⟨S1, e1, e2, e3, e4⟩ := md_secondIs (S := S) h m hlen (a := k + 1) hq
      rw [e1]
      simp only [md_o, Option.bind_some]
      have v24 : ∀ j, j < k → S.2 3 j = S1.2 24 j := fun j hj => by rw [e3 24 (by decide), h24 j hj]
      have v26 : ∀ j, j < len - (k + 1) → sh (S.2 3) (k + 1) j = S1.2 26 j := fun j hj => by rw [e4 j hj]; rfl
      obtain ⟨e', o1⟩ := md_order h m S1 (verP_congr v24 hv) (verP_congr v26 hw) (by rw [e2, va_up_ne _ _ (by decide)]; exact h25) (by rw [e2, va_up_self])
      rw [o1, ← vord_congr v24 v26]
      simp only [Option.bind_some]
      refine ⟨_, rfl, fun j j1 j2 j3 => ?_, fun j j1 j2 => e3 j j2⟩
      show va_up S1.1 28 e' j = _
      rw [va_up_ne _ _ j3, e2, va_up_ne _ _ j2]
theorem md_compare {S : MS} {len : Nat} (hlen : len ≤ 40) (h0 : S.1 0 = nI len) :
    (¬ (fx (S.2 1) 58 0 len ≠ len ∧ VrP (S.2 1) 0 (fx (S.2 1) 58 0 len) ∧ VrP (S.2 1) (fx (S.2 1) 58 0 len + 1) len) → ∃ S', f_MD_compare (md_set h m S) m = some (-3, md_set h m S') ∧ Vw (tkS S) S') ∧
    ((fx (S.2 1) 58 0 len ≠ len ∧ VrP (S.2 1) 0 (fx (S.2 1) 58 0 len) ∧ VrP (S.2 1) (fx (S.2 1) 58 0 len + 1) len) → ∃ S', f_MD_compare (md_set h m S) m = some (3 + vord (S.2 1) (fx (S.2 1) 58 0 len) (sh (S.2 1) (fx (S.2 1) 58 0 len + 1)) (len - (fx (S.2 1) 58 0 len + 1)), md_set h m S') ∧ Vw (tkS S) S') := by
  obtain ⟨S1, t1, t2, t3, t4⟩ := md_take h m hlen h0
  have hT : Tkn S S1 len := ⟨t2, t3, t4⟩
  obtain ⟨g1, g2, g3, g4⟩ := fx_spec (S.2 1) 58 len 0
  have hfx := hT.fx 58
  have hv0 : VrP (S1.2 3) 0 (fx (S.2 1) 58 0 len) ↔ VrP (S.2 1) 0 (fx (S.2 1) 58 0 len) := VrP_congr (fun k _ k2 => t4 k (by omega))
  have hv1 : VrP (S1.2 3) (fx (S.2 1) 58 0 len + 1) len ↔ VrP (S.2 1) (fx (S.2 1) 58 0 len + 1) len := VrP_congr (fun k _ k2 => t4 k (by omega))
  have start : f_MD_compare (md_set h m S) m = (if nI (fx (S.2 1) 58 0 len) = nI len then some (-3, md_set h m S1) else if zi (VrP (S.2 1) 0 (fx (S.2 1) 58 0 len)) = 0 then some (-3, md_set h m S1) else if zi (VrP (S.2 1) (fx (S.2 1) 58 0 len + 1) len) = 0 then some (-3, md_set h m S1) else f_MD_compare_L50 FU m (nI (fx (S.2 1) 58 0 len)) 0 (md_set h m (va_up S1.1 25 (nI (fx (S.2 1) 58 0 len)), S1.2))) := by
    unfold f_MD_compare
    rw [md_o, Option.bind_some, t1, Option.bind_some, md_o, Option.bind_some, md_colonAt h m S1 hlen hT.n, hfx, Option.bind_some, md_i2, Option.bind_some, hT.n]
    split
    · rfl
    · rename_i hne
      have hq : fx (S.2 1) 58 0 len + 1 ≤ 40 := by
        rcases Nat.lt_or_ge (fx (S.2 1) 58 0 len) len with z | z
        · omega
        · exact absurd (by rw [show fx (S.2 1) 58 0 len = len by omega]) hne
      rw [md_o, Option.bind_some, show (0 : Int32) = nI 0 from rfl, md_isVersion h m S1 (by omega) (by omega), Option.bind_some, zi_congr hv0]
      split
      · rfl
      · rw [md_i2, Option.bind_some, md_o, Option.bind_some, hT.n, show nI (fx (S.2 1) 58 0 len) + 1 = nI (fx (S.2 1) 58 0 len + 1) from nI_1 _, md_isVersion h m S1 hq hlen, Option.bind_some, zi_congr hv1]
        split
        · rfl
        · rw [md_w25, Option.bind_some]
  generalize fx (S.2 1) 58 0 len = q at g1 g2 g3 g4 hfx hv0 hv1 start ⊢
  refine ⟨fun hbad => ⟨S1, ?_, hT.vw⟩, fun ⟨b1, b2, b3⟩ => ?_⟩
  · rw [start]
    by_cases a1 : q = len
    · rw [if_pos (by rw [a1])]
    · rw [if_neg (by rw [nI_eq (by omega) (by omega)]; exact a1)]
      by_cases a2 : VrP (S.2 1) 0 q
      · rw [if_neg (fun z => zi_eq0.mp z a2), if_pos (zi_eq0.mpr (fun a3 => hbad ⟨a1, a2, a3⟩))]
      · rw [if_pos (zi_eq0.mpr a2)]
  · rw [start, if_neg (by rw [nI_eq (by omega) (by omega)]; exact b1), if_neg (fun z => zi_eq0.mp z b2), if_neg (fun z => zi_eq0.mp z b3)]
    have c0 : ∀ j, j < q → S1.2 3 j = S.2 1 j := fun j hj => t4 j (by omega)
    have c1 : ∀ j, j < len - (q + 1) → sh (S1.2 3) (q + 1) j = sh (S.2 1) (q + 1) j := fun j hj => t4 (q + 1 + j) (by omega)
    have w0 : VerP (S1.2 3) q := by
      have := verP_of (hv0.mpr b2)
      simp only [Nat.zero_add, Nat.sub_zero] at this
      exact this
    obtain ⟨S', p1, p2⟩ := md_cmp_50 h m (q := q) (by omega) hlen FU 0 (va_up S1.1 25 (nI q), S1.2) (by simp [va_up, hT.n]) (by simp [va_up]) w0 (verP_of (hv1.mpr b3)) (Nat.zero_le _) (FU_big (by omega)) (fun j hj => absurd hj (by omega))
    rw [nI_0, vord_congr c0 c1] at p1
    refine ⟨S', p1, (hT.vw.trans ?_).trans p2.vw⟩
    refine Vw.of ?_ ?_ ?_ ?_ (fun _ _ _ _ => rfl) <;> simp [va_up]
/-- an exclude's, a dependency's place -/
def dtx (S : MS) (D : Nat) : Nat → Int32 := fun j => S.2 13 (D * 40 + j)
def dl (S : MS) (D : Nat) : Nat := (S.2 12 D).toNatClampNeg
noncomputable def dq (S : MS) (D : Nat) : Nat := fx (dtx S D) 58 0 (dl S D)
def xtx (S : MS) (E : Nat) : Nat → Int32 := fun j => S.2 16 (E * 8 + j)
def xl (S : MS) (E : Nat) : Nat := (S.2 15 E).toNatClampNeg
theorem md_dep_83 {i d D len : Nat} {y2 : Int32} (hi : i < 20) (hd : d < 6) (hD : D = i * 6 + d) (hlen : len ≤ 40) : ∀ (f k : Nat) (S : MS), S.1 2 = nI len → S.2 10 i = nI d → k ≤ len → len - k < f → ∃ S' : MS, f_MD_depend_L83 f m (nI i) y2 (nI D) (nI k) (md_set h m S) = some (nI d, md_set h m S') ∧ S'.1 = S.1 ∧ (∀ j, j ≠ 10 → j ≠ 11 → j ≠ 12 → j ≠ 13 → S'.2 j = S.2 j) ∧ S'.2 10 = va_up (S.2 10) i (nI (d + 1)) ∧ S'.2 11 = va_up (S.2 11) D (vp_nar .boolean y2) ∧ S'.2 12 = va_up (S.2 12) D (nI len) ∧ (∀ j, (j < D * 40 + k ∨ D * 40 + len ≤ j) → S'.2 13 j = S.2 13 j) ∧ ∀ j, k ≤ j → j < len → S'.2 13 (D * 40 + j) = S.2 3 j := by
  intro f
  induction f with
  | zero => intro k S _ _ _ hn; omega
  | succ f ih =>
    intro k S h2 h10 hk hn
    simp only [f_MD_depend_L83, md_i2, Option.bind_some, h2]
    by_cases hlt : k < len
    · rw [if_neg (nI_ge hlt (by omega)), show nI D * 40 + nI k = nI (D * 40 + k) by rw [show (40 : Int32) = nI 40 from rfl, pk_mul, nI_add]]
      simp only [md_r3, md_r13, md_a3, md_s13, Option.bind_some, hp_ix_nI (show k < 40 by omega) (by decide), hp_ix_nI (show D * 40 + k < 4800 by omega) (by decide), Option.map_some]
      rw [nI_1]
      obtain ⟨S', e1, e2, e3, e4, e5, e6, e7, e8⟩ := ih (k + 1) (S.1, va_up S.2 13 (va_up (S.2 13) (D * 40 + k) (S.2 3 k))) h2 (by simp [va_up, h10]) (by omega) (by omega)
      refine ⟨S', e1, e2, fun j j1 j2 j3 j4 => ?_, ?_, ?_, ?_, fun j hj => ?_, fun j j1 j2 => ?_⟩
      · rw [e3 j j1 j2 j3 j4]; exact va_up_ne _ _ j4
      · rw [e4]; simp [va_up]
      · rw [e5]; simp [va_up]
      · rw [e6]; simp [va_up]
      · rw [e7 j (by omega)]; simp [va_up, show ¬ j = D * 40 + k by omega]
      · by_cases hjk : j = k
        · subst hjk; rw [e7 (D * 40 + j) (by omega)]; simp [va_up]
        · rw [e8 j (by omega) j2]; simp [va_up]
    · have hkN : k = len := by omega
      subst hkN
      rw [if_pos (nI_le (Nat.le_refl _) (by omega))]
      simp only [md_r12, md_s12, md_r11, md_s11, md_r10, md_a10, md_s10, Option.bind_some, hp_ix_nI (show D < 120 by omega) (by decide), hp_ix_nI (show i < 20 by omega) (by decide), Option.map_some]
      have x10 : (va_up (va_up S.2 12 (va_up (S.2 12) D (nI k))) 11 (va_up ((va_up S.2 12 (va_up (S.2 12) D (nI k))) 11) D (vp_nar .boolean y2))) 10 = S.2 10 := by simp [va_up]
      simp only [x10, h10, va_up_self]
      rw [nI_1, show nI (d + 1) - 1 = nI d from nI_pred d]
      refine ⟨_, rfl, rfl, fun j j1 j2 j3 j4 => ?_, ?_, ?_, ?_, fun j hj => ?_, fun j j1 j2 => absurd j2 (by omega)⟩
      · simp [va_up, j1, j2, j3]
      · simp [va_up]
      · simp [va_up]
      · simp [va_up]
      · simp [va_up]
end MDV
