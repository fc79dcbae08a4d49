/-! ===== words for texts: c the characters, a .. b a stretch of them ===== -/
noncomputable def zi (P : Prop) : Int32 := @ite Int32 P (Classical.propDecidable P) 1 0
theorem zi_1 {P : Prop} (h : P) : zi P = 1 := by unfold zi; rw [if_pos h]
theorem zi_0 {P : Prop} (h : ¬ P) : zi P = 0 := by unfold zi; rw [if_neg h]
theorem zi_eq0 {P : Prop} : zi P = 0 ↔ ¬ P := by
  by_cases h : P
  · rw [zi_1 h]; exact ⟨fun q => absurd q (by decide), fun q => absurd h q⟩
  · rw [zi_0 h]; exact ⟨fun _ => h, fun _ => rfl⟩
theorem zi_congr {P Q : Prop} (h : P ↔ Q) : zi P = zi Q := by rw [propext h]
theorem zi_z {P : Prop} : zi P = 0 ∨ zi P = 1 := by
  by_cases h : P
  · exact Or.inr (zi_1 h)
  · exact Or.inl (zi_0 h)
theorem hp_z_zi {P : Prop} : hp_z (zi P) = some (zi P) := by
  unfold hp_z; rw [if_pos zi_z]
abbrev Dg (x : Int32) : Prop := ¬ x < 48 ∧ ¬ 57 < x
abbrev Lr (x : Int32) : Prop := ¬ x < 97 ∧ ¬ 122 < x
abbrev Mk (x : Int32) : Prop := x = 46 ∨ x = 45
abbrev VC (x : Int32) : Prop := Dg x ∨ Lr x ∨ Mk x
def NmP (c : Nat → Int32) (a b : Nat) : Prop := a < b ∧ b ≤ a + 8 ∧ ∀ k, a ≤ k → k < b → Lr (c k)
def VrP (c : Nat → Int32) (a b : Nat) : Prop := a < b ∧ b ≤ a + 12 ∧ Dg (c a) ∧ ∀ k, a ≤ k → k < b → VC (c k) ∧ (Mk (c k) → k + 1 < b ∧ ¬ Mk (c (k + 1)))
/-- the first place from a on, within n, that holds x; a + n if there is none -/
def fx (c : Nat → Int32) (x : Int32) (a : Nat) : Nat → Nat
  | 0 => a
  | n + 1 => if c a = x then a else fx c x (a + 1) n
theorem fx_spec (c : Nat → Int32) (x : Int32) : ∀ (n a : Nat), a ≤ fx c x a n ∧ fx c x a n ≤ a + n ∧ (∀ k, a ≤ k → k < fx c x a n → c k ≠ x) ∧ (fx c x a n < a + n → c (fx c x a n) = x)
  | 0, a => ⟨Nat.le_refl _, Nat.le_refl _, fun k h1 h2 => absurd h2 (by simp only [fx]; omega), fun h => absurd h (by simp only [fx]; omega)⟩
  | n + 1, a => by
    rw [fx]
    by_cases h : c a = x
    · rw [if_pos h]
      exact ⟨Nat.le_refl _, by omega, fun k h1 h2 => absurd h2 (by omega), fun _ => h⟩
    · rw [if_neg h]
      obtain ⟨h1, h2, h3, h4⟩ := fx_spec c x n (a + 1)
      refine ⟨by omega, by omega, fun k k1 k2 => ?_, fun q => h4 (by omega)⟩
      by_cases hk : k = a
      · rw [hk]; exact h
      · exact h3 k (by omega) k2
/-- the first place is the one that is so -/
theorem fx_eq {c : Nat → Int32} {x : Int32} {a n r : Nat} (h1 : a ≤ r) (h2 : r ≤ a + n) (h3 : ∀ k, a ≤ k → k < r → c k ≠ x) (h4 : r < a + n → c r = x) : fx c x a n = r := by
  obtain ⟨g1, g2, g3, g4⟩ := fx_spec c x n a
  rcases Nat.lt_trichotomy (fx c x a n) r with h | h | h
  · exact absurd (g4 (by omega)) (h3 _ g1 h)
  · exact h
  · exact absurd (h4 (by omega)) (g3 r h1 h)
theorem fx_congr {c c' : Nat → Int32} {x : Int32} {a n : Nat} (h : ∀ k, a ≤ k → k < a + n → c k = c' k) : fx c x a n = fx c' x a n := by
  obtain ⟨g1, g2, g3, g4⟩ := fx_spec c' x n a
  refine fx_eq g1 g2 (fun k k1 k2 => ?_) (fun q => ?_)
  · rw [h k k1 (by omega)]; exact g3 k k1 k2
  · rw [h _ g1 q]; exact g4 q
def RgP (c : Nat → Int32) (a b : Nat) : Prop := VrP c a b ∨ (a + 3 ≤ b ∧ (c a = 91 ∨ c a = 40) ∧ (c (b - 1) = 93 ∨ c (b - 1) = 41) ∧
  ((fx c 44 a (b - a) = b ∧ c a = 91 ∧ c (b - 1) = 93 ∧ VrP c (a + 1) (b - 1)) ∨
   (fx c 44 a (b - a) ≠ b ∧ (fx c 44 a (b - a) = a + 1 ∨ VrP c (a + 1) (fx c 44 a (b - a))) ∧ (fx c 44 a (b - a) = b - 2 ∨ VrP c (fx c 44 a (b - a) + 1) (b - 1)))))
theorem hp_ix_nI {k n : Nat} (h : k < n) (hn : n < 2 ^ 31) : hp_ix (nI k) n = some k := by
  unfold hp_ix
  rw [if_neg (nI_in h hn), nI_clamp (by omega)]
theorem FU_big {n : Nat} (h : n < 100000) : n < FU := by rw [FU_eq]; exact h
theorem FU_s : ∃ F, FU = F + 1 := ⟨99999, FU_eq⟩
