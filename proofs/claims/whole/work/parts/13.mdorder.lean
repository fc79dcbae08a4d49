/-! ===== the parts of a version v of N characters, and the reference's order ===== -/
/-- the end of the run of digits (d) or of letters (not d) that goes on at k -/
noncomputable def rn (v : Nat → Int32) (d : Prop) (k : Nat) : Nat → Nat
  | 0 => k
  | n + 1 => @ite Nat (¬ Mk (v k) ∧ (Dg (v k) ↔ d)) (Classical.propDecidable _) (rn v d (k + 1) n) k
theorem rn_spec (v : Nat → Int32) (d : Prop) : ∀ (n k : Nat), k ≤ rn v d k n ∧ rn v d k n ≤ k + n ∧ (∀ j, k ≤ j → j < rn v d k n → ¬ Mk (v j) ∧ (Dg (v j) ↔ d)) ∧ (rn v d k n < k + n → ¬ (¬ Mk (v (rn v d k n)) ∧ (Dg (v (rn v d k n)) ↔ d)))
  | 0, k => ⟨Nat.le_refl _, Nat.le_refl _, fun j h1 h2 => absurd h2 (by simp only [rn]; omega), fun h => absurd h (by simp only [rn]; omega)⟩
  | n + 1, k => by
    rw [rn]
    by_cases h : ¬ Mk (v k) ∧ (Dg (v k) ↔ d)
    · rw [if_pos h]
      obtain ⟨h1, h2, h3, h4⟩ := rn_spec v d n (k + 1)
      refine ⟨by omega, by omega, fun j j1 j2 => ?_, fun q => h4 (by omega)⟩
      by_cases hj : j = k
      · rw [hj]; exact h
      · exact h3 j (by omega) j2
    · rw [if_neg h]
      exact ⟨Nat.le_refl _, by omega, fun j j1 j2 => absurd j2 (by omega), fun _ => h⟩
noncomputable def pts (v : Nat → Int32) (N : Nat) : Nat → Nat → List (Nat × Nat)
  | 0, _ => []
  | n + 1, k => if N ≤ k then [] else @ite _ (Mk (v k)) (Classical.propDecidable _) (pts v N n (k + 1)) ((k, rn v (Dg (v k)) (k + 1) (N - (k + 1))) :: pts v N n (rn v (Dg (v k)) (k + 1) (N - (k + 1))))
/-- the p-th part: where it begins, where it ends -/
noncomputable def pv (v : Nat → Int32) (N p : Nat) : Option (Nat × Nat) := (pts v N FU 0)[p]?
section MDO
variable (h : hp_H) (m : Nat) (S : MS)
/-- which version is read: 0 the second, 1 the first -/
def whichV (y1 : Int32) (v : Nat → Int32) (S : MS) : Prop := (y1 = 0 ∧ v = S.2 26) ∨ (y1 = 1 ∧ v = S.2 24)
theorem zi_same {P Q : Prop} : zi P = zi Q ↔ (P ↔ Q) := by
  by_cases hp : P <;> by_cases hq : Q
  · rw [zi_1 hp, zi_1 hq]; exact ⟨fun _ => ⟨fun _ => hq, fun _ => hp⟩, fun _ => rfl⟩
  · rw [zi_1 hp, zi_0 hq]; exact ⟨fun q => absurd q (by decide), fun q => absurd (q.mp hp) hq⟩
  · rw [zi_0 hp, zi_1 hq]; exact ⟨fun q => absurd q (by decide), fun q => absurd (q.mpr hq) hp⟩
  · rw [zi_0 hp, zi_0 hq]; exact ⟨fun _ => ⟨fun z => absurd z hp, fun z => absurd z hq⟩, fun _ => rfl⟩
theorem md_part_L78 (k22 : Nat → Int32 → Int32 → Int32 → Int32 → Int32 → hp_H → Option (Int32 × hp_H)) {y1 y2 y5 c0 y7 : Int32} {v : Nat → Int32} (hv : whichV y1 v S) (hm : ¬ Mk c0) {N : Nat} (hN : N ≤ 40) : ∀ (n k : Nat), k ≤ N → N - k < n → f_MD_part_L78 k22 n m y1 y2 (nI N) (nI k) y5 c0 y7 (zi (Dg c0)) (md_set h m S) = f_MD_part_L157 k22 m y1 y2 (nI N) (nI (rn v (Dg c0) k (N - k))) y5 c0 y7 (md_set h m S) := by
  intro n
  induction n with
  | zero => intro k _ hn; omega
  | succ n ih =>
    intro k hk hn
    simp only [f_MD_part_L78]
    by_cases hlt : k < N
    · rw [if_neg (nI_ge hlt (by omega))]
      simp only [md_o, md_isMark, Option.bind_some]
      rw [if_pos (zi_eq0.mpr hm)]
      obtain ⟨d, hd⟩ : ∃ d, N - k = d + 1 := ⟨N - k - 1, by omega⟩
      have body : f_MD_part_L115 k22 (f_MD_part_L78 k22 n) m y1 y2 (nI N) (nI k) y5 c0 y7 (zi (Dg c0)) (v k) (some m) (md_set h m S) = f_MD_part_L157 k22 m y1 y2 (nI N) (nI (rn v (Dg c0) k (N - k))) y5 c0 y7 (md_set h m S) := by
        rw [hd, rn]
        simp only [f_MD_part_L115, md_o, md_isMark, Option.bind_some]
        by_cases h1 : Mk (v k)
        · rw [if_neg (fun z => zi_eq0.mp z h1), if_neg (fun z => z.1 h1)]
        · rw [if_pos (zi_eq0.mpr h1)]
          have b2 : f_MD_part_L143 k22 (f_MD_part_L78 k22 n) m y1 y2 (nI N) (nI k) y5 c0 y7 (zi (Dg c0)) (v k) (some m) (md_set h m S) = f_MD_part_L157 k22 m y1 y2 (nI N) (nI (@ite Nat (¬ Mk (v k) ∧ (Dg (v k) ↔ Dg c0)) (Classical.propDecidable _) (rn v (Dg c0) (k + 1) d) k)) y5 c0 y7 (md_set h m S) := by
            simp only [f_MD_part_L143, md_o, md_isDigit, Option.bind_some]
            by_cases h2 : Dg (v k) ↔ Dg c0
            · rw [if_pos (zi_same.mpr h2), if_pos ⟨h1, h2⟩, nI_1, ih (k + 1) (by omega) (by omega), show N - (k + 1) = d by omega]
            · rw [if_neg (fun z => h2 (zi_same.mp z)), if_neg (fun z => h2 z.2)]
          rcases hv with ⟨rfl, rfl⟩ | ⟨rfl, rfl⟩
          · rw [if_pos rfl]
            simp only [md_r26, md_a26, Option.bind_some, hp_ix_nI (show k < 40 by omega) (by decide), Option.map_some]
            exact b2
          · rw [if_neg (by decide)]
            simp only [md_r24, md_a24, Option.bind_some, hp_ix_nI (show k < 40 by omega) (by decide), Option.map_some]
            exact b2
      rcases hv with ⟨rfl, rfl⟩ | ⟨rfl, rfl⟩
      · rw [if_pos rfl]
        simp only [md_r26, md_a26, Option.bind_some, hp_ix_nI (show k < 40 by omega) (by decide), Option.map_some]
        exact body
      · rw [if_neg (by decide)]
        simp only [md_r24, md_a24, Option.bind_some, hp_ix_nI (show k < 40 by omega) (by decide), Option.map_some]
        exact body
    · have hkN : k = N := by omega
      subst hkN
      rw [if_pos (nI_le (Nat.le_refl _) (by omega)), Nat.sub_self, rn]
theorem md_part_L22 {y1 : Int32} {v : Nat → Int32} (hv : whichV y1 v S) {N p : Nat} (hN : N ≤ 40) (hp : p < 1000) : ∀ (n s k : Nat), k ≤ N → N - k < n → s ≤ p → f_MD_part_L22 n m y1 (nI p) (nI N) (nI k) (nI s + (-1)) (md_set h m S) = (match (pts v N n k)[p - s]? with
      | none => some (-1, md_set h m S)
      | some q => some (nI q.1, md_set h m (va_up S.1 28 (nI q.2), S.2))) := by
  intro n
  induction n with
  | zero => intro s k _ hn; omega
  | succ n ih =>
    intro s k hk hn hs
    simp only [f_MD_part_L22]
    by_cases hlt : k < N
    · rw [if_neg (nI_ge hlt (by omega)), pts, if_neg (show ¬ N ≤ k by omega)]
      have body : f_MD_part_L49 (f_MD_part_L22 n) m y1 (nI p) (nI N) (nI k) (nI s + (-1)) (v k) (md_set h m S) = (match (@ite (List (Nat × Nat)) (Mk (v k)) (Classical.propDecidable _) (pts v N n (k + 1)) ((k, rn v (Dg (v k)) (k + 1) (N - (k + 1))) :: pts v N n (rn v (Dg (v k)) (k + 1) (N - (k + 1)))))[p - s]? with
          | none => some (-1, md_set h m S)
          | some q => some (nI q.1, md_set h m (va_up S.1 28 (nI q.2), S.2))) := by
        simp only [f_MD_part_L49, md_o, md_isDigit, md_isMark, Option.bind_some]
        by_cases hm : Mk (v k)
        · rw [if_neg (fun z => zi_eq0.mp z hm), if_pos hm]
          have h78 : ∀ n', f_MD_part_L78 (f_MD_part_L22 n) (n' + 1) m y1 (nI p) (nI N) (nI k + 1) (nI s + (-1)) (v k) (nI k) (zi (Dg (v k))) (md_set h m S) = f_MD_part_L157 (f_MD_part_L22 n) m y1 (nI p) (nI N) (nI k + 1) (nI s + (-1)) (v k) (nI k) (md_set h m S) := by
            intro n'
            simp only [f_MD_part_L78, md_o, md_isMark, Option.bind_some]
            rw [if_neg (fun z => zi_eq0.mp z hm)]
            split <;> rfl
          obtain ⟨F, hF⟩ := FU_s
          rw [hF, h78 F]
          simp only [f_MD_part_L157, md_o, md_isMark, Option.bind_some]
          rw [if_neg (fun z => zi_eq0.mp z hm), nI_1, ih s (k + 1) (by omega) (by omega) hs]
        · rw [if_pos (zi_eq0.mpr hm), if_neg hm, nI_1, md_part_L78 h m S (f_MD_part_L22 n) hv hm hN FU (k + 1) (by omega) (FU_big (by omega))]
          obtain ⟨g1, g2, g3, g4⟩ := rn_spec v (Dg (v k)) (N - (k + 1)) (k + 1)
          generalize rn v (Dg (v k)) (k + 1) (N - (k + 1)) = r at g1 g2 g3 g4 ⊢
          simp only [f_MD_part_L157, md_o, md_isMark, Option.bind_some]
          rw [if_pos (zi_eq0.mpr hm), show nI s + (-1) + 1 = nI s by rw [Int32.add_assoc, show (-1 : Int32) + 1 = 0 by decide, Int32.add_zero]]
          by_cases hsp : s = p
          · subst hsp
            rw [if_pos rfl, Nat.sub_self]
            simp only [md_w28, Option.bind_some, List.getElem?_cons_zero]
          · rw [if_neg (by rw [nI_eq (by omega) (by omega)]; exact hsp), show p - s = (p - (s + 1)) + 1 by omega, List.getElem?_cons_succ, ← pk_m1 s, ih (s + 1) r (by omega) (by omega) (by omega)]
      rcases hv with ⟨rfl, rfl⟩ | ⟨rfl, rfl⟩
      · rw [if_pos rfl]
        simp only [md_r26, md_a26, Option.bind_some, hp_ix_nI (show k < 40 by omega) (by decide), Option.map_some]
        exact body
      · rw [if_neg (by decide)]
        simp only [md_r24, md_a24, Option.bind_some, hp_ix_nI (show k < 40 by omega) (by decide), Option.map_some]
        exact body
    · have hkN : k = N := by omega
      subst hkN
      rw [if_pos (nI_le (Nat.le_refl _) (by omega)), pts, if_pos (Nat.le_refl _)]
      rfl
theorem md_part {y1 : Int32} {v : Nat → Int32} (hv : whichV y1 v S) {N p : Nat} (hN : N ≤ 40) (hp : p < 1000) (hS : (if y1 = 0 then S.1 27 else S.1 25) = nI N) : f_MD_part (md_set h m S) m y1 (nI p) = (match pv v N p with
      | none => some (-1, md_set h m S)
      | some q => some (nI q.1, md_set h m (va_up S.1 28 (nI q.2), S.2))) := by
  unfold f_MD_part
  have key := md_part_L22 h m S hv hN hp FU 0 0 (Nat.zero_le _) (FU_big (by omega)) (Nat.zero_le _)
  have e0 : nI 0 + (-1) = (-1 : Int32) := by decide
  rw [e0] at key
  simp only [md_i27, md_i25, Option.bind_some]
  split
  · rename_i hy
    rw [if_pos hy] at hS
    rw [hS]
    exact key
  · rename_i hy
    rw [if_neg hy] at hS
    rw [hS]
    exact key
end MDO
