/-! ===== the reference: taking the line, and the short calls ===== -/
theorem NmP_congr {c d : Nat → Int32} {a b : Nat} (h : ∀ k, a ≤ k → k < b → c k = d k) : NmP c a b ↔ NmP d a b := by
  unfold NmP
  refine ⟨fun ⟨h1, h2, h3⟩ => ⟨h1, h2, fun k k1 k2 => by rw [← h k k1 k2]; exact h3 k k1 k2⟩, fun ⟨h1, h2, h3⟩ => ⟨h1, h2, fun k k1 k2 => by rw [h k k1 k2]; exact h3 k k1 k2⟩⟩
theorem VrP_imp {c d : Nat → Int32} {a b : Nat} (h : ∀ k, a ≤ k → k < b → c k = d k) (hv : VrP c a b) : VrP d a b := by
  obtain ⟨h1, h2, h3, h4⟩ := hv
  refine ⟨h1, h2, by rw [← h a (Nat.le_refl _) h1]; exact h3, fun k k1 k2 => ?_⟩
  obtain ⟨g1, g2⟩ := h4 k k1 k2
  rw [← h k k1 k2]
  refine ⟨g1, fun q => ?_⟩
  obtain ⟨q1, q2⟩ := g2 q
  rw [← h (k + 1) (by omega) q1]
  exact ⟨q1, q2⟩
theorem VrP_congr {c d : Nat → Int32} {a b : Nat} (h : ∀ k, a ≤ k → k < b → c k = d k) : VrP c a b ↔ VrP d a b :=
  ⟨VrP_imp h, VrP_imp (fun k k1 k2 => (h k k1 k2).symm)⟩
theorem RgP_congr {c d : Nat → Int32} {a b : Nat} (h : ∀ k, a ≤ k → k < b → c k = d k) : RgP c a b ↔ RgP d a b := by
  unfold RgP
  rw [VrP_congr h]
  by_cases h3 : a + 3 ≤ b
  · have e : fx c 44 a (b - a) = fx d 44 a (b - a) := fx_congr (fun k k1 k2 => h k k1 (by omega))
    obtain ⟨g1, g2, -, -⟩ := fx_spec d 44 (b - a) a
    rw [e, h a (Nat.le_refl _) (by omega), h (b - 1) (by omega) (by omega), VrP_congr (a := a + 1) (b := b - 1) (fun k k1 k2 => h k (by omega) (by omega)), VrP_congr (a := a + 1) (b := fx d 44 a (b - a)) (fun k k1 k2 => h k (by omega) (by omega)), VrP_congr (a := fx d 44 a (b - a) + 1) (b := b - 1) (fun k k1 k2 => h k (by omega) (by omega))]
  · exact ⟨fun z => z.elim Or.inl (fun z => absurd z.1 h3), fun z => z.elim Or.inl (fun z => absurd z.1 h3)⟩
theorem HoldsP_congr {c d : Nat → Int32} {a n : Nat} {v w : Nat → Int32} {N : Nat} (h : ∀ k, a ≤ k → k < n → c k = d k) (hv : ∀ j, j < N → v j = w j) (hr : RgP c a n) : HoldsP c a n v N ↔ HoldsP d a n w N := by
  unfold HoldsP
  rw [VrP_congr h]
  by_cases hV : VrP d a n
  · rw [vord_congr hv (N' := n - a) (v' := sh c a) (w' := sh d a) (fun j hj => h (a + j) (by omega) (by omega))]
    exact ⟨fun z => z.elim Or.inl (fun z => absurd hV z.1), fun z => z.elim Or.inl (fun z => absurd hV z.1)⟩
  · rcases hr with hr | ⟨h3, -⟩
    · exact absurd ((VrP_congr h).mp hr) hV
    have e : fx c 44 a (n - a) = fx d 44 a (n - a) := fx_congr (fun k k1 k2 => h k k1 (by omega))
    obtain ⟨g1, g2, -, -⟩ := fx_spec d 44 (n - a) a
    rw [e, h a (Nat.le_refl _) (by omega), h (n - 1) (by omega) (by omega), vord_congr hv (N' := n - a) (v' := sh c a) (w' := sh d a) (fun j hj => h (a + j) (by omega) (by omega)), vord_congr hv (N' := n - 1 - (a + 1)) (v' := sh c (a + 1)) (w' := sh d (a + 1)) (fun j hj => h (a + 1 + j) (by omega) (by omega)), vord_congr hv (N' := fx d 44 a (n - a) - (a + 1)) (v' := sh c (a + 1)) (w' := sh d (a + 1)) (fun j hj => h (a + 1 + j) (by omega) (by omega)), vord_congr hv (N' := n - 1 - (fx d 44 a (n - a) + 1)) (v' := sh c (fx d 44 a (n - a) + 1)) (w' := sh d (fx d 44 a (n - a) + 1)) (fun j hj => h (fx d 44 a (n - a) + 1 + j) (by omega) (by omega))]
section MDQ
variable (h : hp_H) (m : Nat)
theorem md_take_L {len : Nat} (hl : len ≤ 40) : ∀ (n k : Nat) (S : MS), S.1 2 = nI len → k ≤ len → len - k < n → ∃ S' : MS, f_MD_take_L10 n m (nI k) (md_set h m S) = some (md_set h m S') ∧ S'.1 = va_up S.1 0 0 ∧ (∀ j, j ≠ 3 → S'.2 j = S.2 j) ∧ (∀ j, j < k → S'.2 3 j = S.2 3 j) ∧ ∀ j, k ≤ j → j < len → S'.2 3 j = S.2 1 j := by
  intro n
  induction n with
  | zero => intro k S _ _ hn; omega
  | succ n ih =>
    intro k S hS hk hn
    simp only [f_MD_take_L10, md_i2, Option.bind_some, hS]
    by_cases hlt : k < len
    · rw [if_neg (nI_ge hlt (by omega))]
      simp only [md_r3, md_r1, md_a1, md_s3, Option.bind_some, hp_ix_nI (show k < 40 by omega) (by decide), Option.map_some]
      rw [nI_1]
      obtain ⟨S', e1, e2, e3, e4, e5⟩ := ih (k + 1) (S.1, va_up S.2 3 (va_up (S.2 3) k (S.2 1 k))) hS (by omega) (by omega)
      refine ⟨S', e1, e2, fun j hj => ?_, fun j hj => ?_, fun j j1 j2 => ?_⟩
      · rw [e3 j hj]; exact va_up_ne _ _ hj
      · rw [e4 j (by omega)]; simp [va_up, show ¬ j = k by omega]
      · by_cases hjk : j = k
        · subst hjk; rw [e4 j (by omega)]; simp [va_up]
        · rw [e5 j (by omega) j2]; simp [va_up]
    · have hkN : k = len := by omega
      subst hkN
      rw [if_pos (nI_le (Nat.le_refl _) (by omega))]
      simp only [md_w0, Option.bind_some]
      exact ⟨_, rfl, rfl, fun _ _ => rfl, fun _ _ => rfl, fun j j1 j2 => absurd j2 (by omega)⟩
theorem md_take {S : MS} {len : Nat} (hl : len ≤ 40) (h0 : S.1 0 = nI len) : ∃ S' : MS, f_MD_take (md_set h m S) m = some (md_set h m S') ∧ S'.1 = va_up (va_up S.1 2 (nI len)) 0 0 ∧ (∀ j, j ≠ 3 → S'.2 j = S.2 j) ∧ ∀ j, j < len → S'.2 3 j = S.2 1 j := by
  unfold f_MD_take
  simp only [md_i0, md_w2, Option.bind_some, h0]
  obtain ⟨S', e1, e2, e3, -, e5⟩ := md_take_L h m hl FU 0 (va_up S.1 2 (nI len), S.2) (by simp [va_up]) (Nat.zero_le _) (FU_big (by omega))
  exact ⟨S', e1, e2, e3, fun j hj => e5 j (Nat.zero_le _) hj⟩
theorem md_takeDep_L {D len : Nat} (hD : D < 120) (hl : len ≤ 40) : ∀ (n k : Nat) (S : MS), S.1 2 = nI len → k ≤ len → len - k < n → ∃ S' : MS, f_MD_takeDependency_L12 n m (nI D) (nI k) (md_set h m S) = some (md_set h m S') ∧ S'.1 = S.1 ∧ (∀ j, j ≠ 3 → S'.2 j = S.2 j) ∧ (∀ j, j < k → S'.2 3 j = S.2 3 j) ∧ ∀ j, k ≤ j → j < len → S'.2 3 j = S.2 13 (D * 40 + j) := by
  intro n
  induction n with
  | zero => intro k S _ _ hn; omega
  | succ n ih =>
    intro k S hS hk hn
    simp only [f_MD_takeDependency_L12, md_i2, Option.bind_some, hS]
    by_cases hlt : k < len
    · rw [if_neg (nI_ge hlt (by omega)), show nI D * 40 + nI k = nI (D * 40 + k) by rw [show (40 : Int32) = nI 40 from rfl, pk_mul, nI_add]]
      simp only [md_r3, md_r13, md_a13, md_s3, Option.bind_some, hp_ix_nI (show k < 40 by omega) (by decide), hp_ix_nI (show D * 40 + k < 4800 by omega) (by decide), Option.map_some]
      rw [nI_1]
      obtain ⟨S', e1, e2, e3, e4, e5⟩ := ih (k + 1) (S.1, va_up S.2 3 (va_up (S.2 3) k (S.2 13 (D * 40 + k)))) hS (by omega) (by omega)
      refine ⟨S', e1, e2, fun j hj => ?_, fun j hj => ?_, fun j j1 j2 => ?_⟩
      · rw [e3 j hj]; exact va_up_ne _ _ hj
      · rw [e4 j (by omega)]; simp [va_up, show ¬ j = k by omega]
      · by_cases hjk : j = k
        · subst hjk; rw [e4 j (by omega)]; simp [va_up]
        · rw [e5 j (by omega) j2]; simp [va_up]
    · have hkN : k = len := by omega
      subst hkN
      rw [if_pos (nI_le (Nat.le_refl _) (by omega))]
      exact ⟨S, rfl, rfl, fun _ _ => rfl, fun _ _ => rfl, fun j j1 j2 => absurd j2 (by omega)⟩
theorem md_takeDep {S : MS} {D len : Nat} (hD : D < 120) (hl : len ≤ 40) (h12 : S.2 12 D = nI len) : ∃ S' : MS, f_MD_takeDependency (md_set h m S) m (nI D) = some (md_set h m S') ∧ S'.1 = va_up S.1 2 (nI len) ∧ (∀ j, j ≠ 3 → S'.2 j = S.2 j) ∧ ∀ j, j < len → S'.2 3 j = S.2 13 (D * 40 + j) := by
  unfold f_MD_takeDependency
  simp only [md_r12, md_a12, md_w2, Option.bind_some, hp_ix_nI hD (by decide), Option.map_some, h12]
  obtain ⟨S', e1, e2, e3, -, e5⟩ := md_takeDep_L h m hD hl FU 0 (va_up S.1 2 (nI len), S.2) (by simp [va_up]) (Nat.zero_le _) (FU_big (by omega))
  exact ⟨S', e1, e2, e3, fun j hj => e5 j (Nat.zero_le _) hj⟩
/-- is it no number of an artifact -/
theorem md_none {S : MS} {N : Nat} (hN : N ≤ 20) (h4 : S.1 4 = nI N) (x : Int32) : f_MD_none (md_set h m S) m x = some (zi (¬ ∃ i, i < N ∧ x = nI i), md_set h m S) := by
  unfold f_MD_none
  simp only [md_i4, Option.bind_some, h4]
  rcases pk_ix x (n := N) (by omega) with h1 | h1 | ⟨j, h1, rfl⟩
  · rw [if_pos h1, zi_1]
    rintro ⟨i, h2, rfl⟩
    exact absurd h1 (nI_pos (by omega))
  · have h0 : ¬ x < 0 := fun z => by
      have a1 := Int32.lt_iff_toInt_lt.mp z
      have a2 := Int32.le_iff_toInt_le.mp h1
      rw [nI_toInt (by omega)] at a2
      have a3 : (0 : Int32).toInt = 0 := by decide
      omega
    rw [if_neg h0, if_neg (Int32.not_lt.mpr h1), zi_1]
    rintro ⟨i, h2, rfl⟩
    rw [nI_leI (by omega) (by omega)] at h1
    omega
  · rw [if_neg (nI_pos (by omega)), if_pos (nI_lt h1 (by omega)), zi_0]
    exact fun z => z ⟨j, h1, rfl⟩
theorem md_type {S : MS} {len : Nat} (hl : len ≤ 40) (h0 : S.1 0 = nI len) (x : Int32) : f_MD_type (md_set h m S) m x = (if x < 0 then some (-1, md_set h m S) else if x ≤ 255 then (if len = 40 then some (-2, md_set h m S) else some (nI (len + 1), md_set h m (va_up S.1 0 (nI (len + 1)), va_up S.2 1 (va_up (S.2 1) len x)))) else some (-1, md_set h m S)) := by
  unfold f_MD_type
  simp only [md_i0, md_r1, md_s1, md_w0, Option.bind_some, h0]
  by_cases hlen : len = 40
  · rw [if_pos hlen, if_pos (show nI len = 40 by rw [hlen]; rfl)]
  · rw [if_neg hlen, if_neg (show ¬ nI len = 40 from fun z => hlen ((nI_eq (b := 40) (by omega) (by omega)).mp z))]
    simp only [hp_ix_nI (show len < 40 by omega) (by decide), Option.map_some, Option.bind_some, md_i0, md_w0, h0, nI_1]
    rw [va_up_self]
theorem md_wipe {S : MS} : f_MD_wipe (md_set h m S) m = some (S.1 0, md_set h m (va_up S.1 0 0, S.2)) := by
  unfold f_MD_wipe
  simp only [md_i0, md_w0, Option.bind_some]
theorem md_culprit {S : MS} : f_MD_culprit (md_set h m S) m = some (S.1 17, md_set h m S) := by
  unfold f_MD_culprit
  simp only [md_i17, Option.bind_some]
/-- the three readers of the result -/
theorem md_at_ix {R : Nat} (hR : R ≤ 20) (x : Int32) (lo : Int32) (hlo : lo = nI 0 ∨ lo = nI 1) : (x < lo ∨ ¬ x < nI R) ∨ ∃ j : Nat, j < R ∧ x = nI j ∧ ¬ x < lo ∧ x < nI R := by
  by_cases h1 : x < lo
  · exact Or.inl (Or.inl h1)
  · by_cases h2 : x < nI R
    · have hx0 : ¬ x < 0 := fun z => h1 (by
        rcases hlo with rfl | rfl
        · exact z
        · have a1 := Int32.lt_iff_toInt_lt.mp z
          refine Int32.lt_iff_toInt_lt.mpr ?_
          have a3 : (0 : Int32).toInt = 0 := by decide
          have a4 : (nI 1).toInt = 1 := by decide
          omega)
      rcases pk_ix x (n := R) (by omega) with q | q | ⟨j, q1, q2⟩
      · exact absurd q hx0
      · exact absurd h2 (Int32.not_lt.mpr q)
      · exact Or.inr ⟨j, q1, q2, h1, h2⟩
    · exact Or.inl (Or.inr h2)
end MDQ
