/-! ===== the reference's readers of texts ===== -/
section MDT
variable (h : hp_H) (m : Nat) (S : MS)
theorem md_isDigit (x : Int32) (h : hp_H) (m : Nat) : f_MD_isDigit h m x = some (zi (Dg x), h) := by
  unfold f_MD_isDigit
  by_cases h1 : x < 48
  · rw [if_pos h1, zi_0 (fun q => q.1 h1)]
  · rw [if_neg h1]
    by_cases h2 : 57 < x
    · rw [if_pos h2, zi_0 (fun q => q.2 h2)]
    · rw [if_neg h2, zi_1 ⟨h1, h2⟩]
theorem md_isMark (x : Int32) (h : hp_H) (m : Nat) : f_MD_isMark h m x = some (zi (Mk x), h) := by
  unfold f_MD_isMark
  by_cases h1 : x = 46
  · rw [if_pos h1, zi_1 (Or.inl h1)]
  · rw [if_neg h1]
    by_cases h2 : x = 45
    · rw [if_pos h2, zi_1 (Or.inr h2)]
    · rw [if_neg h2, zi_0 (fun q => q.elim h1 h2)]
theorem md_colonAt_L : ∀ (n k N : Nat), N ≤ 40 → S.1 2 = nI N → k ≤ N → N - k < n → f_MD_colonAt_L2 n m (nI k) (md_set h m S) = some (nI (fx (S.2 3) 58 k (N - k)), md_set h m S) := by
  intro n
  induction n with
  | zero => intro k N _ _ _ hn; omega
  | succ n ih =>
    intro k N hN hS hk hn
    simp only [f_MD_colonAt_L2, md_i2, Option.bind_some, hS]
    by_cases hlt : k < N
    · rw [if_neg (nI_ge hlt (by omega))]
      simp only [md_r3, md_a3, Option.bind_some, hp_ix_nI (show k < 40 by omega) (by decide), Option.map_some]
      obtain ⟨d, hd⟩ : ∃ d, N - k = d + 1 := ⟨N - k - 1, by omega⟩
      rw [hd, fx]
      by_cases hc : S.2 3 k = 58
      · rw [if_pos hc, if_pos hc]
      · rw [if_neg hc, if_neg hc, nI_1, ih (k + 1) N hN hS (by omega) (by omega), show N - (k + 1) = d by omega]
    · have hkN : k = N := by omega
      subst hkN
      rw [if_pos (nI_le (Nat.le_refl _) (by omega)), Nat.sub_self, fx]
theorem md_colonAt {N : Nat} (hN : N ≤ 40) (hS : S.1 2 = nI N) : f_MD_colonAt (md_set h m S) m = some (nI (fx (S.2 3) 58 0 N), md_set h m S) :=
  md_colonAt_L h m S FU 0 N hN hS (Nat.zero_le _) (FU_big (by omega))
theorem md_commaIn_L : ∀ (n k b : Nat), b ≤ 40 → k ≤ b → b - k < n → f_MD_commaIn_L2 n m (nI b) (nI k) (md_set h m S) = some (nI (fx (S.2 3) 44 k (b - k)), md_set h m S) := by
  intro n
  induction n with
  | zero => intro k N _ _ hn; omega
  | succ n ih =>
    intro k N hN hk hn
    simp only [f_MD_commaIn_L2]
    by_cases hlt : k < N
    · rw [if_neg (nI_ge hlt (by omega))]
      simp only [md_r3, md_a3, Option.bind_some, hp_ix_nI (show k < 40 by omega) (by decide), Option.map_some]
      obtain ⟨d, hd⟩ : ∃ d, N - k = d + 1 := ⟨N - k - 1, by omega⟩
      rw [hd, fx]
      by_cases hc : S.2 3 k = 44
      · rw [if_pos hc, if_pos hc]
      · rw [if_neg hc, if_neg hc, nI_1, ih (k + 1) N hN (by omega) (by omega), show N - (k + 1) = d by omega]
    · have hkN : k = N := by omega
      subst hkN
      rw [if_pos (nI_le (Nat.le_refl _) (by omega)), Nat.sub_self, fx]
theorem md_commaIn {a b : Nat} (hb : b ≤ 40) (hab : a ≤ b) : f_MD_commaIn (md_set h m S) m (nI a) (nI b) = some (nI (fx (S.2 3) 44 a (b - a)), md_set h m S) :=
  md_commaIn_L h m S FU a b hb hab (FU_big (by omega))
theorem md_isName_L : ∀ (n k a b : Nat), a ≤ k → k ≤ b → b ≤ 40 → b - k < n → (∀ j, a ≤ j → j < k → Lr (S.2 3 j)) → f_MD_isName_L2 n m (nI a) (nI b) (nI k) (md_set h m S) = some (zi (NmP (S.2 3) a b), md_set h m S) := by
  intro n
  induction n with
  | zero => intro k a b _ _ _ hn; omega
  | succ n ih =>
    intro k a b hak hkb hb hn hall
    simp only [f_MD_isName_L2]
    by_cases hlt : k < b
    · rw [if_neg (nI_ge hlt (by omega))]
      simp only [md_r3, md_a3, Option.bind_some, hp_ix_nI (show k < 40 by omega) (by decide), Option.map_some]
      by_cases h1 : S.2 3 k < 97
      · rw [if_pos h1, zi_0 (fun q => (q.2.2 k hak hlt).1 h1)]
      · rw [if_neg h1]
        by_cases h2 : S.2 3 k ≤ 122
        · rw [if_pos h2, nI_1, ih (k + 1) a b (by omega) (by omega) hb (by omega) (fun j j1 j2 => ?_)]
          by_cases hj : j = k
          · subst hj; exact ⟨h1, Int32.not_lt.mpr h2⟩
          · exact hall j j1 (by omega)
        · rw [if_neg h2, zi_0 (fun q => (q.2.2 k hak hlt).2 (Int32.not_le.mp h2))]
    · have hkN : k = b := by omega
      subst hkN
      rw [if_pos (nI_le (Nat.le_refl _) (by omega))]
      by_cases h1 : k ≤ a
      · rw [if_pos (nI_le h1 (by omega)), zi_0 (fun q => absurd q.1 (by omega))]
      · rw [if_neg (nI_ge (by omega) (by omega)), pk_sub hak]
        by_cases h2 : 8 < k - a
        · rw [if_pos (show (8 : Int32) < nI (k - a) from nI_lt (a := 8) h2 (by omega)), zi_0 (fun q => absurd q.2.1 (by omega))]
        · rw [if_neg (show ¬ (8 : Int32) < nI (k - a) from nI_nlt (b := k - a) (a := 8) (by omega) (by omega)), zi_1 ⟨by omega, by omega, hall⟩]
theorem md_isName {a b : Nat} (hab : a ≤ b) (hb : b ≤ 40) : f_MD_isName (md_set h m S) m (nI a) (nI b) = some (zi (NmP (S.2 3) a b), md_set h m S) :=
  md_isName_L h m S FU a a b (Nat.le_refl _) hab hb (FU_big (by omega)) (fun j h1 h2 => absurd h2 (by omega))
theorem md_isVersion_L : ∀ (n k a b : Nat), a ≤ k → k ≤ b → b ≤ 40 → b - k < n → a < b → b ≤ a + 12 → Dg (S.2 3 a) → (∀ j, a ≤ j → j < k → VC (S.2 3 j) ∧ (Mk (S.2 3 j) → j + 1 < b ∧ ¬ Mk (S.2 3 (j + 1)))) → f_MD_isVersion_L30 n m (nI b) (nI k) (md_set h m S) = some (zi (VrP (S.2 3) a b), md_set h m S) := by
  intro n
  induction n with
  | zero => intro k a b _ _ _ hn; omega
  | succ n ih =>
    intro k a b hak hkb hb hn hlt0 h12 hdg hall
    simp only [f_MD_isVersion_L30]
    by_cases hlt : k < b
    · rw [if_neg (nI_ge hlt (by omega))]
      have go : ∀ q : VC (S.2 3 k) ∧ (Mk (S.2 3 k) → k + 1 < b ∧ ¬ Mk (S.2 3 (k + 1))), f_MD_isVersion_L30 n m (nI b) (nI k + 1) (md_set h m S) = some (zi (VrP (S.2 3) a b), md_set h m S) := by
        intro q
        rw [nI_1]
        refine ih (k + 1) a b (by omega) (by omega) hb (by omega) hlt0 h12 hdg (fun j j1 j2 => ?_)
        by_cases hj : j = k
        · subst hj; exact q
        · exact hall j j1 (by omega)
      have key : VC (S.2 3 k) → f_MD_isVersion_L97 (f_MD_isVersion_L30 n) m (nI b) (nI k) (md_set h m S) = some (zi (VrP (S.2 3) a b), md_set h m S) := by
        intro hv
        simp only [f_MD_isVersion_L97, md_r3, md_a3, md_o, md_isMark, Option.bind_some, hp_ix_nI (show k < 40 by omega) (by decide), Option.map_some]
        by_cases hm : Mk (S.2 3 k)
        · rw [if_neg (fun q => zi_eq0.mp q hm)]
          by_cases he : k + 1 = b
          · rw [if_pos (by show nI k + 1 = nI b; rw [nI_1, he]), zi_0 (fun q => absurd ((q.2.2.2 k hak hlt).2 hm).1 (by omega))]
          · rw [if_neg (by show ¬ nI k + 1 = nI b; rw [nI_1, nI_eq (by omega) (by omega)]; exact he)]
            simp only [show nI k + 1 = nI (k + 1) from nI_1 k, hp_ix_nI (show k + 1 < 40 by omega) (by decide), Option.map_some, Option.bind_some]
            by_cases hm2 : Mk (S.2 3 (k + 1))
            · rw [if_neg (fun q => zi_eq0.mp q hm2), zi_0 (fun q => ((q.2.2.2 k hak hlt).2 hm).2 hm2)]
            · rw [if_pos (zi_eq0.mpr hm2), ← nI_1]
              exact go ⟨hv, fun _ => ⟨by omega, hm2⟩⟩
        · rw [if_pos (zi_eq0.mpr hm)]
          exact go ⟨hv, fun q => absurd q hm⟩
      have key0 : ¬ Lr (S.2 3 k) → f_MD_isVersion_L61 (f_MD_isVersion_L30 n) m (nI b) (nI k) (md_set h m S) = some (zi (VrP (S.2 3) a b), md_set h m S) := by
        intro hnl
        simp only [f_MD_isVersion_L61, f_MD_isVersion_L62, md_r3, md_a3, md_o, md_isDigit, md_isMark, Option.bind_some, hp_ix_nI (show k < 40 by omega) (by decide), Option.map_some, if_pos]
        by_cases hd : Dg (S.2 3 k)
        · rw [if_neg (fun q => zi_eq0.mp q hd)]
          exact key (Or.inl hd)
        · rw [if_pos (zi_eq0.mpr hd)]
          by_cases hm : Mk (S.2 3 k)
          · rw [if_neg (fun q => zi_eq0.mp q hm)]
            exact key (Or.inr (Or.inr hm))
          · rw [if_pos (zi_eq0.mpr hm), zi_0 (fun q => (q.2.2.2 k hak hlt).1.elim hd (fun q => q.elim hnl hm))]
      simp only [md_r3, md_a3, Option.bind_some, hp_ix_nI (show k < 40 by omega) (by decide), Option.map_some]
      by_cases h1 : S.2 3 k < 97
      · rw [if_pos h1]; exact key0 (fun q => q.1 h1)
      · rw [if_neg h1]
        by_cases h2 : 122 < S.2 3 k
        · rw [if_pos h2]; exact key0 (fun q => q.2 h2)
        · rw [if_neg h2]
          unfold f_MD_isVersion_L62
          rw [if_neg (by decide)]
          exact key (Or.inr (Or.inl ⟨h1, h2⟩))
    · have hkN : k = b := by omega
      subst hkN
      rw [if_pos (nI_le (Nat.le_refl _) (by omega)), zi_1 ⟨hlt0, h12, hdg, hall⟩]
theorem md_isVersion {a b : Nat} (ha : a ≤ 40) (hb : b ≤ 40) : f_MD_isVersion (md_set h m S) m (nI a) (nI b) = some (zi (VrP (S.2 3) a b), md_set h m S) := by
  unfold f_MD_isVersion
  by_cases h1 : b ≤ a
  · rw [if_pos (nI_le h1 (by omega)), zi_0 (fun q => absurd q.1 (by omega))]
  · rw [if_neg (nI_ge (by omega) (by omega)), pk_sub (by omega)]
    by_cases h2 : 12 < b - a
    · rw [if_pos (show (12 : Int32) < nI (b - a) from nI_lt (a := 12) h2 (by omega)), zi_0 (fun q => absurd q.2.1 (by omega))]
    · rw [if_neg (show ¬ (12 : Int32) < nI (b - a) from nI_nlt (b := b - a) (a := 12) (by omega) (by omega))]
      simp only [md_r3, md_a3, md_o, md_isDigit, Option.bind_some, hp_ix_nI (show a < 40 by omega) (by decide), Option.map_some]
      by_cases hd : Dg (S.2 3 a)
      · rw [if_neg (fun q => zi_eq0.mp q hd)]
        exact md_isVersion_L h m S FU a a b (Nat.le_refl _) (by omega) hb (FU_big (by omega)) (by omega) (by omega) hd (fun j j1 j2 => absurd j2 (by omega))
      · rw [if_pos (zi_eq0.mpr hd), zi_0 (fun q => hd q.2.2.1)]
theorem md_isRange_L141 {q b : Nat} (hb : b ≤ 40) (hb2 : 2 ≤ b) (hq : q < b) : f_MD_isRange_L141 m (nI b) (nI q) (md_set h m S) = some (zi (q = b - 2 ∨ VrP (S.2 3) (q + 1) (b - 1)), md_set h m S) := by
  unfold f_MD_isRange_L141
  rw [show (2 : Int32) = nI 2 from rfl, pk_sub hb2, show (1 : Int32) = nI 1 from rfl, nI_add, pk_sub (show 1 ≤ b by omega)]
  by_cases h1 : q = b - 2
  · rw [if_pos (by rw [h1]), zi_1 (Or.inl h1)]
    rfl
  · rw [if_neg (by rw [nI_eq (by omega) (by omega)]; exact h1)]
    simp only [md_o, Option.bind_some]
    rw [md_isVersion h m S (show q + 1 ≤ 40 by omega) (by omega)]
    simp only [Option.bind_some]
    by_cases hv : VrP (S.2 3) (q + 1) (b - 1)
    · rw [if_neg (fun z => zi_eq0.mp z hv), zi_1 (Or.inr hv)]; rfl
    · rw [if_pos (zi_eq0.mpr hv), zi_0 (fun z => z.elim h1 hv)]
theorem md_isRange_L68 {a b : Nat} (hb : b ≤ 40) (hab : a + 3 ≤ b) : f_MD_isRange_L68 m (nI a) (nI b) (md_set h m S) = some (zi ((fx (S.2 3) 44 a (b - a) = b ∧ S.2 3 a = 91 ∧ S.2 3 (b - 1) = 93 ∧ VrP (S.2 3) (a + 1) (b - 1)) ∨
   (fx (S.2 3) 44 a (b - a) ≠ b ∧ (fx (S.2 3) 44 a (b - a) = a + 1 ∨ VrP (S.2 3) (a + 1) (fx (S.2 3) 44 a (b - a))) ∧ (fx (S.2 3) 44 a (b - a) = b - 2 ∨ VrP (S.2 3) (fx (S.2 3) 44 a (b - a) + 1) (b - 1)))), md_set h m S) := by
  unfold f_MD_isRange_L68
  simp only [md_o, Option.bind_some]
  rw [md_commaIn h m S hb (by omega)]
  obtain ⟨g1, g2, g3, g4⟩ := fx_spec (S.2 3) 44 (b - a) a
  generalize fx (S.2 3) 44 a (b - a) = q at g1 g2 g3 g4 ⊢
  simp only [Option.bind_some]
  by_cases hq : q = b
  · rw [if_pos (by rw [hq])]
    simp only [md_r3, md_a3, md_o, Option.bind_some, hp_ix_nI (show a < 40 by omega) (by decide), Option.map_some]
    by_cases h1 : S.2 3 a = 91
    · rw [if_pos h1, show nI b - (1 : Int32) = nI (b - 1) from pk_sub (a := b) (b := 1) (by omega), show nI a + (1 : Int32) = nI (a + 1) from nI_1 a]
      simp only [Option.bind_some, hp_ix_nI (show b - 1 < 40 by omega) (by decide), Option.map_some]
      by_cases h2 : S.2 3 (b - 1) = 93
      · rw [if_pos h2, md_isVersion h m S (by omega) (by omega)]
        simp only [Option.bind_some]
        by_cases hv : VrP (S.2 3) (a + 1) (b - 1)
        · rw [if_neg (fun z => zi_eq0.mp z hv), zi_1 (Or.inl ⟨hq, h1, h2, hv⟩)]
        · rw [if_pos (zi_eq0.mpr hv), zi_0 (fun z => z.elim (fun z => hv z.2.2.2) (fun z => z.1 hq))]
      · rw [if_neg h2, zi_0 (fun z => z.elim (fun z => h2 z.2.2.1) (fun z => z.1 hq))]
    · rw [if_neg h1, zi_0 (fun z => z.elim (fun z => h1 z.2.1) (fun z => z.1 hq))]
  · rw [if_neg (by rw [nI_eq (by omega) (by omega)]; exact hq), show nI a + (1 : Int32) = nI (a + 1) from nI_1 a]
    by_cases h1 : q = a + 1
    · rw [if_pos (by rw [h1]), md_isRange_L141 h m S hb (by omega) (by omega)]
      refine congrArg some (Prod.ext (zi_congr ?_) rfl)
      exact ⟨fun z => Or.inr ⟨hq, Or.inl h1, z⟩, fun z => z.elim (fun z => absurd z.1 hq) (fun z => z.2.2)⟩
    · rw [if_neg (by rw [nI_eq (by omega) (by omega)]; exact h1)]
      simp only [md_o, Option.bind_some]
      rw [md_isVersion h m S (by omega) (by omega)]
      simp only [Option.bind_some]
      by_cases hv : VrP (S.2 3) (a + 1) q
      · rw [if_neg (fun z => zi_eq0.mp z hv), md_isRange_L141 h m S hb (by omega) (by omega)]
        refine congrArg some (Prod.ext (zi_congr ?_) rfl)
        exact ⟨fun z => Or.inr ⟨hq, Or.inr hv, z⟩, fun z => z.elim (fun z => absurd z.1 hq) (fun z => z.2.2)⟩
      · rw [if_pos (zi_eq0.mpr hv), zi_0 (fun z => z.elim (fun z => hq z.1) (fun z => z.2.1.elim h1 hv))]
theorem md_isRange_L40 {a b : Nat} (hb : b ≤ 40) (hab : a + 3 ≤ b) (ha : S.2 3 a = 91 ∨ S.2 3 a = 40) (hnv : ¬ VrP (S.2 3) a b) : f_MD_isRange_L40 m (nI a) (nI b) (md_set h m S) = some (zi (RgP (S.2 3) a b), md_set h m S) := by
  unfold f_MD_isRange_L40
  rw [show nI b - (1 : Int32) = nI (b - 1) from pk_sub (a := b) (b := 1) (by omega)]
  simp only [md_r3, md_a3, md_o, Option.bind_some, hp_ix_nI (show b - 1 < 40 by omega) (by decide), Option.map_some]
  by_cases h1 : S.2 3 (b - 1) = 93
  · rw [if_pos h1, md_isRange_L68 h m S hb hab]
    refine congrArg some (Prod.ext (zi_congr ?_) rfl)
    exact ⟨fun z => Or.inr ⟨hab, ha, Or.inl h1, z⟩, fun z => z.elim (fun z => absurd z hnv) (fun z => z.2.2.2)⟩
  · rw [if_neg h1]
    by_cases h2 : S.2 3 (b - 1) = 41
    · rw [if_pos h2, md_isRange_L68 h m S hb hab]
      refine congrArg some (Prod.ext (zi_congr ?_) rfl)
      exact ⟨fun z => Or.inr ⟨hab, ha, Or.inr h2, z⟩, fun z => z.elim (fun z => absurd z hnv) (fun z => z.2.2.2)⟩
    · rw [if_neg h2, zi_0 (fun z => z.elim hnv (fun z => z.2.2.1.elim h1 h2))]
theorem md_isRange {a b : Nat} (hab : a ≤ b) (hb : b ≤ 40) : f_MD_isRange (md_set h m S) m (nI a) (nI b) = some (zi (RgP (S.2 3) a b), md_set h m S) := by
  unfold f_MD_isRange
  simp only [md_o, Option.bind_some]
  rw [md_isVersion h m S (by omega) hb]
  simp only [Option.bind_some]
  by_cases hv : VrP (S.2 3) a b
  · rw [if_neg (fun z => zi_eq0.mp z hv), zi_1 (show RgP (S.2 3) a b from Or.inl hv)]
  · rw [if_pos (zi_eq0.mpr hv), pk_sub hab]
    by_cases h3 : b - a < 3
    · rw [if_pos (show nI (b - a) < (3 : Int32) from nI_lt (b := 3) h3 (by omega)), zi_0 (fun z => z.elim hv (fun z => absurd z.1 (by omega)))]
    · rw [if_neg (show ¬ nI (b - a) < (3 : Int32) from nI_nlt (b := 3) (by omega) (by omega))]
      simp only [md_r3, md_a3, md_o, Option.bind_some, hp_ix_nI (show a < 40 by omega) (by decide), Option.map_some]
      by_cases h1 : S.2 3 a = 91
      · rw [if_pos h1, md_isRange_L40 h m S hb (by omega) (Or.inl h1) hv]
      · rw [if_neg h1]
        by_cases h2 : S.2 3 a = 40
        · rw [if_pos h2, md_isRange_L40 h m S hb (by omega) (Or.inr h2) hv]
        · rw [if_neg h2, zi_0 (fun z => z.elim hv (fun z => z.2.1.elim h1 h2))]
end MDT
