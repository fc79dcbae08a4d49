/-! ===== the reference: holds, hasName, isAbove, pick ===== -/
def sh (c : Nat → Int32) (a : Nat) : Nat → Int32 := fun j => c (a + j)
/-- the range a .. n of the text c holds the version v of N characters -/
def HoldsP (c : Nat → Int32) (a n : Nat) (v : Nat → Int32) (N : Nat) : Prop :=
  (VrP c a n ∧ vord v N (sh c a) (n - a) = 0) ∨
  (¬ VrP c a n ∧ ((fx c 44 a (n - a) = n ∧ vord v N (sh c (a + 1)) (n - 1 - (a + 1)) = 0) ∨
    (fx c 44 a (n - a) ≠ n ∧
      (fx c 44 a (n - a) = a + 1 ∨ 0 < vord v N (sh c (a + 1)) (fx c 44 a (n - a) - (a + 1)) ∨ (vord v N (sh c (a + 1)) (fx c 44 a (n - a) - (a + 1)) = 0 ∧ c a ≠ 40)) ∧
      (fx c 44 a (n - a) = n - 2 ∨ vord v N (sh c (fx c 44 a (n - a) + 1)) (n - 1 - (fx c 44 a (n - a) + 1)) < 0 ∨ (vord v N (sh c (fx c 44 a (n - a) + 1)) (n - 1 - (fx c 44 a (n - a) + 1)) = 0 ∧ c (n - 1) ≠ 41)))))
theorem vord_r (v : Nat → Int32) (N : Nat) (v' : Nat → Int32) (N' : Nat) : vord v N v' N' = -1 ∨ vord v N v' N' = 0 ∨ vord v N v' N' = 1 := cmpP_r _ _ _ _
section MDK
variable (h : hp_H) (m : Nat)
theorem md_orderTo' {S : MS} {i len co a b : Nat} (hA : ArtT S i len co) (hv : VerP (avr S i co) (len - (co + 1))) (hb : b ≤ 40) (hw : VrP (S.2 3) a b) : ∃ S' : MS, f_MD_orderTo (md_set h m S) m (nI i) (nI a) (nI b) = some (vord (avr S i co) (len - (co + 1)) (sh (S.2 3) a) (b - a), md_set h m S') ∧ Sc S S' :=
  md_orderTo h m hA hv hb (Nat.le_of_lt hw.1) (verP_of hw)
theorem ArtT.sc {S S' : MS} {i len co : Nat} (hA : ArtT S i len co) (hs : Sc S S') : ArtT S' i len co := by
  obtain ⟨h1, h2, h3, h4⟩ := hA
  exact ⟨h1, by rw [hs.2 5 (by decide) (by decide)]; exact h2, by rw [hs.2 7 (by decide) (by decide)]; exact h3, h4⟩
theorem avr_sc {S S' : MS} (hs : Sc S S') (i co : Nat) : avr S' i co = avr S i co := by
  unfold avr; rw [hs.2 6 (by decide) (by decide)]
theorem md_holds_113 {S : MS} {i len co q n : Nat} (hA : ArtT S i len co) (hv : VerP (avr S i co) (len - (co + 1))) (hn : n ≤ 40) (hS : S.1 2 = nI n) (hq : q + 2 ≤ n) (hw : q = n - 2 ∨ VrP (S.2 3) (q + 1) (n - 1)) : ∃ S' : MS, f_MD_holds_L113 m (nI i) (nI q) (md_set h m S) = some (zi (q = n - 2 ∨ vord (avr S i co) (len - (co + 1)) (sh (S.2 3) (q + 1)) (n - 1 - (q + 1)) < 0 ∨ (vord (avr S i co) (len - (co + 1)) (sh (S.2 3) (q + 1)) (n - 1 - (q + 1)) = 0 ∧ S.2 3 (n - 1) ≠ 41)), md_set h m S') ∧ Sc S S' := by
  unfold f_MD_holds_L113
  simp only [md_i2, md_o, Option.bind_some, hS]
  rw [show nI n - 2 = nI (n - 2) from pk_sub (a := n) (b := 2) (by omega), show nI n - 1 = nI (n - 1) from pk_sub (a := n) (b := 1) (by omega), show nI q + 1 = nI (q + 1) from nI_1 q]
  by_cases h1 : n - 2 ≤ q
  · rw [if_pos (nI_le h1 (by omega)), zi_1 (Or.inl (by omega))]
    exact ⟨S, rfl, Sc.rfl'⟩
  · rw [if_neg (nI_ge (by omega) (by omega))]
    rcases hw with hw | hw
    · omega
    obtain ⟨S', e1, e2⟩ := md_orderTo' h m hA hv (b := n - 1) (by omega) hw
    rw [e1]
    refine ⟨S', ?_, e2⟩
    simp only [Option.bind_some, md_r3, md_i2, md_a3]
    rw [show S'.1 2 = nI n by rw [e2.1 2 (by decide) (by decide) (by decide)]; exact hS, show nI n - 1 = nI (n - 1) from pk_sub (a := n) (b := 1) (by omega)]
    simp only [hp_ix_nI (show n - 1 < 40 by omega) (by decide), Option.map_some, Option.bind_some]
    rw [e2.2 3 (by decide) (by decide)]
    rcases vord_r (avr S i co) (len - (co + 1)) (sh (S.2 3) (q + 1)) (n - 1 - (q + 1)) with ho | ho | ho
    · rw [ho, if_neg (by decide), if_neg (by decide), zi_1 (Or.inr (Or.inl (by decide)))]
    · rw [ho, if_neg (by decide), if_pos rfl]
      by_cases hc : S.2 3 (n - 1) = 41
      · rw [if_pos hc, zi_0 (fun z => z.elim (fun z => by omega) (fun z => z.elim (fun z => absurd z (by decide)) (fun z => z.2 hc)))]
      · rw [if_neg hc, zi_1 (Or.inr (Or.inr ⟨rfl, hc⟩))]
    · rw [ho, if_pos (by decide), zi_0 (fun z => z.elim (fun z => by omega) (fun z => z.elim (fun z => absurd z (by decide)) (fun z => absurd z.1 (by decide))))]
theorem md_holds {S : MS} {i len co a n : Nat} (hA : ArtT S i len co) (hv : VerP (avr S i co) (len - (co + 1))) (hn : n ≤ 40) (ha : a ≤ n) (hS : S.1 2 = nI n) (hr : RgP (S.2 3) a n) : ∃ S' : MS, f_MD_holds (md_set h m S) m (nI i) (nI a) = some (zi (HoldsP (S.2 3) a n (avr S i co) (len - (co + 1))), md_set h m S') ∧ Sc S S' := by
  unfold f_MD_holds
  simp only [md_i2, md_o, Option.bind_some, hS]
  rw [md_isVersion h m S (by omega) hn]
  simp only [Option.bind_some, md_i2, md_o, hS]
  by_cases hV : VrP (S.2 3) a n
  · rw [if_neg (fun z => zi_eq0.mp z hV)]
    obtain ⟨S', e1, e2⟩ := md_orderTo' h m hA hv hn hV
    rw [e1]
    refine ⟨S', ?_, e2⟩
    simp only [Option.bind_some]
    by_cases ho : vord (avr S i co) (len - (co + 1)) (sh (S.2 3) a) (n - a) = 0
    · rw [if_pos ho, zi_1 (show HoldsP _ _ _ _ _ from Or.inl ⟨hV, ho⟩)]
    · rw [if_neg ho, zi_0 (show ¬ HoldsP _ _ _ _ _ from fun z => z.elim (fun z => ho z.2) (fun z => z.1 hV))]
  · rw [if_pos (zi_eq0.mpr hV)]
    rcases hr with hr | ⟨r1, r2, r3, r4⟩
    · exact absurd hr hV
    rw [md_commaIn h m S hn ha]
    simp only [Option.bind_some, md_i2, md_o, hS]
    obtain ⟨g1, g2, g3, g4⟩ := fx_spec (S.2 3) 44 (n - a) a
    have hz : HoldsP (S.2 3) a n (avr S i co) (len - (co + 1)) ↔ ((fx (S.2 3) 44 a (n - a) = n ∧ vord (avr S i co) (len - (co + 1)) (sh (S.2 3) (a + 1)) (n - 1 - (a + 1)) = 0) ∨
    (fx (S.2 3) 44 a (n - a) ≠ n ∧
      (fx (S.2 3) 44 a (n - a) = a + 1 ∨ 0 < vord (avr S i co) (len - (co + 1)) (sh (S.2 3) (a + 1)) (fx (S.2 3) 44 a (n - a) - (a + 1)) ∨ (vord (avr S i co) (len - (co + 1)) (sh (S.2 3) (a + 1)) (fx (S.2 3) 44 a (n - a) - (a + 1)) = 0 ∧ S.2 3 a ≠ 40)) ∧
      (fx (S.2 3) 44 a (n - a) = n - 2 ∨ vord (avr S i co) (len - (co + 1)) (sh (S.2 3) (fx (S.2 3) 44 a (n - a) + 1)) (n - 1 - (fx (S.2 3) 44 a (n - a) + 1)) < 0 ∨ (vord (avr S i co) (len - (co + 1)) (sh (S.2 3) (fx (S.2 3) 44 a (n - a) + 1)) (n - 1 - (fx (S.2 3) 44 a (n - a) + 1)) = 0 ∧ S.2 3 (n - 1) ≠ 41)))) := ⟨fun z => z.elim (fun z => absurd z.1 hV) (fun z => z.2), fun z => Or.inr ⟨hV, z⟩⟩
    rw [zi_congr hz]
    have hqa : fx (S.2 3) 44 a (n - a) ≠ a := fun z => by
      have := g4 (by omega)
      rw [z] at this
      rcases r2 with q | q <;> rw [q] at this <;> exact absurd this (by decide)
    have hqn : fx (S.2 3) 44 a (n - a) ≠ n - 1 := fun z => by
      have := g4 (by omega)
      rw [z] at this
      rcases r3 with q | q <;> rw [q] at this <;> exact absurd this (by decide)
    generalize fx (S.2 3) 44 a (n - a) = q at g1 g2 g3 g4 r4 hqa hqn ⊢
    rw [show nI n - 1 = nI (n - 1) from pk_sub (a := n) (b := 1) (by omega), show nI a + 1 = nI (a + 1) from nI_1 a]
    by_cases hq : q = n
    · rw [if_pos (by rw [hq])]
      rcases r4 with r4 | r4
      · obtain ⟨S', e1, e2⟩ := md_orderTo' h m hA hv (b := n - 1) (by omega) r4.2.2.2
        rw [e1]
        refine ⟨S', ?_, e2⟩
        simp only [Option.bind_some]
        by_cases ho : vord (avr S i co) (len - (co + 1)) (sh (S.2 3) (a + 1)) (n - 1 - (a + 1)) = 0
        · rw [if_pos ho, zi_1 (Or.inl ⟨hq, ho⟩)]
        · rw [if_neg ho, zi_0 (fun z => z.elim (fun z => ho z.2) (fun z => z.1 hq))]
      · exact absurd hq r4.1
    · rw [if_neg (by rw [nI_eq (by omega) (by omega)]; exact hq)]
      rcases r4 with r4 | ⟨-, r5, r6⟩
      · exact absurd r4.1 hq
      by_cases hq1 : q ≤ a + 1
      · have hqe : q = a + 1 := by omega
        rw [if_pos (nI_le hq1 (by omega))]
        obtain ⟨S', e1, e2⟩ := md_holds_113 h m hA hv hn hS (q := q) (by omega) r6
        refine ⟨S', ?_, e2⟩
        rw [e1]
        refine congrArg some (Prod.ext (zi_congr ?_) rfl)
        exact ⟨fun z => Or.inr ⟨hq, Or.inl hqe, z⟩, fun z => z.elim (fun z => absurd z.1 hq) (fun z => z.2.2)⟩
      · rw [if_neg (nI_ge (by omega) (by omega))]
        have hv1 : VrP (S.2 3) (a + 1) q := r5.elim (fun z => by omega) id
        obtain ⟨S1, e1, e2⟩ := md_orderTo' h m hA hv (b := q) (by omega) hv1
        rw [e1]
        simp only [Option.bind_some, md_r3, md_a3, hp_ix_nI (show a < 40 by omega) (by decide), Option.map_some]
        have t3 := e2.2 3 (by decide) (by decide)
        obtain ⟨S', f1, f2⟩ := md_holds_113 h m (hA.sc e2) (by rw [avr_sc e2]; exact hv) hn (S := S1) (by rw [e2.1 2 (by decide) (by decide) (by decide)]; exact hS) (q := q) (by omega) (by rw [t3]; exact r6)
        rw [t3, avr_sc e2] at f1
        rw [t3]
        rcases vord_r (avr S i co) (len - (co + 1)) (sh (S.2 3) (a + 1)) (q - (a + 1)) with ho | ho | ho
        · rw [ho, if_pos (by decide)]
          refine ⟨S1, ?_, e2⟩
          rw [zi_0 (fun z => z.elim (fun z => hq z.1) (fun z => z.2.1.elim (fun z => by omega) (fun z => z.elim (fun z => absurd z (by decide)) (fun z => absurd z.1 (by decide)))))]
        · rw [ho, if_neg (by decide), if_pos rfl]
          by_cases hc : S.2 3 a = 40
          · rw [if_pos hc]
            refine ⟨S1, ?_, e2⟩
            rw [zi_0 (fun z => z.elim (fun z => hq z.1) (fun z => z.2.1.elim (fun z => by omega) (fun z => z.elim (fun z => absurd z (by decide)) (fun z => z.2 hc))))]
          · rw [if_neg hc, f1]
            refine ⟨S', congrArg some (Prod.ext (zi_congr ?_) rfl), e2.trans f2⟩
            exact ⟨fun z => Or.inr ⟨hq, Or.inr (Or.inr ⟨rfl, hc⟩), z⟩, fun z => z.elim (fun z => absurd z.1 hq) (fun z => z.2.2)⟩
        · rw [ho, if_neg (by decide), if_neg (by decide), f1]
          refine ⟨S', congrArg some (Prod.ext (zi_congr ?_) rfl), e2.trans f2⟩
          exact ⟨fun z => Or.inr ⟨hq, Or.inr (Or.inl (by decide)), z⟩, fun z => z.elim (fun z => absurd z.1 hq) (fun z => z.2.2)⟩
end MDK
