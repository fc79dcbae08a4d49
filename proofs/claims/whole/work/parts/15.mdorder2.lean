section MDP
variable (h : hp_H) (m : Nat) (S : MS)
theorem whichV.up {y1 : Int32} {v : Nat → Int32} {S : MS} (hv : whichV y1 v S) (f : Nat → Int32) : whichV y1 v (f, S.2) := hv
theorem md_number_L19 {y1 : Int32} {v : Nat → Int32} (hv : whichV y1 v S) {b e : Nat} (hS : S.1 28 = nI e) (he : e ≤ 40) (hd : ∀ j, b ≤ j → j < e → Dg (v j)) : ∀ (n k : Nat) (a : Int64), b ≤ k → k ≤ e → e - k < n → f_MD_number_L19 n m y1 a (nI k) (md_set h m S) = some (dv v (e - k) k a, md_set h m S) := by
  intro n
  induction n with
  | zero => intro k a _ _ hn; omega
  | succ n ih =>
    intro k a hb hk hn
    simp only [f_MD_number_L19, md_i28, Option.bind_some, hS]
    by_cases hlt : k < e
    · rw [if_neg (nI_ge hlt (by omega))]
      have body : f_MD_number_L49 (f_MD_number_L19 n) m y1 a (nI k) (v k) (md_set h m S) = some (dv v (e - k) k a, md_set h m S) := by
        simp only [f_MD_number_L49, md_o, md_isDigit, Option.bind_some]
        rw [if_neg (fun z => zi_eq0.mp z (hd k hb hlt)), nI_1, ih (k + 1) _ (by omega) (by omega) (by omega), show e - k = (e - (k + 1)) + 1 by omega, dv]
      rcases hv with ⟨rfl, rfl⟩ | ⟨rfl, rfl⟩
      · rw [if_pos rfl]
        simp only [md_r26, md_a26, Option.bind_some, hp_ix_nI (show k < 40 by omega) (by decide), Option.map_some]
        exact body
      · rw [if_neg (by decide)]
        simp only [md_r24, md_a24, Option.bind_some, hp_ix_nI (show k < 40 by omega) (by decide), Option.map_some]
        exact body
    · have hkN : k = e := by omega
      subst hkN
      rw [if_pos (nI_le (Nat.le_refl _) (by omega)), Nat.sub_self, dv]
/-- what the reference's number says of a part -/
noncomputable def nb (v : Nat → Int32) (q : Option (Nat × Nat)) : Int64 := match q with
  | none => 0
  | some q => @ite Int64 (Dg (v q.1)) (Classical.propDecidable _) (dv v (q.2 - q.1) q.1 0) (-1)
theorem md_number {y1 : Int32} {v : Nat → Int32} (hv : whichV y1 v S) {N p : Nat} (hN : N ≤ 40) (hp : p < 1000) (hS : (if y1 = 0 then S.1 27 else S.1 25) = nI N) : f_MD_number (md_set h m S) m y1 (nI p) = (match pv v N p with
      | none => some (nb v (pv v N p), md_set h m S)
      | some q => some (nb v (pv v N p), md_set h m (va_up S.1 28 (nI q.2), S.2))) := by
  unfold f_MD_number
  simp only [md_o, Option.bind_some]
  rw [md_part h m S hv hN hp hS]
  cases hq : pv v N p with
  | none =>
    simp only [Option.bind_some, nb]
    rw [if_neg (by decide)]
  | some q =>
    obtain ⟨h1, h2, h3⟩ := pv_spec hq
    simp only [Option.bind_some, nb]
    rw [if_pos (nI_pos' (by omega))]
    by_cases hd : Dg (v q.1)
    · rw [if_pos hd]
      exact md_number_L19 h m _ (hv.up _) (b := q.1) (show (va_up S.1 28 (nI q.2)) 28 = nI q.2 from va_up_self _ _ _) (by omega) (fun j j1 j2 => (h3 j j1 j2).2.mpr hd) FU q.1 0 (Nat.le_refl _) (by omega) (FU_big (by omega))
    · rw [if_neg hd]
      have step : ∀ n, f_MD_number_L19 (n + 1) m y1 0 (nI q.1) (md_set h m (va_up S.1 28 (nI q.2), S.2)) = some (-1, md_set h m (va_up S.1 28 (nI q.2), S.2)) := by
        intro n
        simp only [f_MD_number_L19, md_i28, Option.bind_some, va_up_self]
        rw [if_neg (nI_ge h1 (by omega))]
        have body : f_MD_number_L49 (f_MD_number_L19 n) m y1 0 (nI q.1) (v q.1) (md_set h m (va_up S.1 28 (nI q.2), S.2)) = some (-1, md_set h m (va_up S.1 28 (nI q.2), S.2)) := by
          simp only [f_MD_number_L49, md_o, md_isDigit, Option.bind_some]
          rw [if_pos (zi_eq0.mpr hd)]
        rcases hv with ⟨rfl, rfl⟩ | ⟨rfl, rfl⟩
        · rw [if_pos rfl]
          simp only [md_r26, md_a26, Option.bind_some, hp_ix_nI (show q.1 < 40 by omega) (by decide), Option.map_some]
          exact body
        · rw [if_neg (by decide)]
          simp only [md_r24, md_a24, Option.bind_some, hp_ix_nI (show q.1 < 40 by omega) (by decide), Option.map_some]
          exact body
      obtain ⟨F, hF⟩ := FU_s
      rw [hF]
      exact step F
theorem md_ow_L {a ea b eb : Nat} (h1 : a < ea) (h2 : ea ≤ 28) (h3 : b < eb) (h4 : eb ≤ 28) (hS : S.1 28 = nI eb) : ∀ (n i : Nat), i ≤ 12 → 12 - i < n → f_MD_orderOfWords_L23 n m (nI a) (nI ea) (nI b) (nI i) (md_set h m S) = some (ow (wc (S.2 24) a ea) (wc (S.2 26) b eb) (12 - i) i, md_set h m S) := by
  intro n
  induction n with
  | zero => intro i _ hn; omega
  | succ n ih =>
    intro i hi hn
    simp only [f_MD_orderOfWords_L23]
    by_cases hlt : i < 12
    · rw [if_neg (show ¬ (12 : Int32) ≤ nI i from nI_ge (b := 12) hlt (by omega)), show 12 - i = (12 - (i + 1)) + 1 by omega, ow, nI_add]
      have last : ∀ x y : Int32, f_MD_orderOfWords_L79 (f_MD_orderOfWords_L23 n) m (nI a) (nI ea) (nI b) (nI i) x y (md_set h m S) = some (if x = y then ow (wc (S.2 24) a ea) (wc (S.2 26) b eb) (12 - (i + 1)) (i + 1) else if y ≤ x then 1 else -1, md_set h m S) := by
        intro x y
        unfold f_MD_orderOfWords_L79
        by_cases hxy : x = y
        · rw [if_pos hxy, if_pos hxy, nI_1, ih (i + 1) (by omega) (by omega)]
        · rw [if_neg hxy, if_neg hxy]
          split <;> rfl
      have mid : ∀ x : Int32, f_MD_orderOfWords_L51 (f_MD_orderOfWords_L23 n) m (nI a) (nI ea) (nI b) (nI i) x (md_set h m S) = some (if x = wc (S.2 26) b eb i then ow (wc (S.2 24) a ea) (wc (S.2 26) b eb) (12 - (i + 1)) (i + 1) else if wc (S.2 26) b eb i ≤ x then 1 else -1, md_set h m S) := by
        intro x
        simp only [f_MD_orderOfWords_L51, md_i28, Option.bind_some, hS, nI_add]
        by_cases hb : eb ≤ b + i
        · rw [if_pos (nI_le hb (by omega)), last, wc, if_pos hb]
        · rw [if_neg (nI_ge (by omega) (by omega))]
          simp only [md_r26, md_a26, Option.bind_some, hp_ix_nI (show b + i < 40 by omega) (by decide), Option.map_some]
          rw [last, wc, if_neg hb]
      by_cases ha : ea ≤ a + i
      · rw [if_pos (nI_le ha (by omega)), mid, show wc (S.2 24) a ea i = 0 by rw [wc, if_pos ha]]
      · rw [if_neg (nI_ge (by omega) (by omega))]
        simp only [md_r24, md_a24, Option.bind_some, hp_ix_nI (show a + i < 40 by omega) (by decide), Option.map_some]
        rw [mid, show wc (S.2 24) a ea i = S.2 24 (a + i) by rw [wc, if_neg ha]]
    · have hkN : i = 12 := by omega
      subst hkN
      rw [if_pos (show (12 : Int32) ≤ nI 12 from nI_le (Nat.le_refl _) (by omega)), Nat.sub_self, ow]
theorem md_ow {p NA NB : Nat} {qa qb : Nat × Nat} (hp : p < 1000) (hA : NA ≤ 28) (hB : NB ≤ 28) (hSa : S.1 25 = nI NA) (hSb : S.1 27 = nI NB) (ha : pv (S.2 24) NA p = some qa) (hb : pv (S.2 26) NB p = some qb) : f_MD_orderOfWords (md_set h m S) m (nI p) = some (ow (wc (S.2 24) qa.1 qa.2) (wc (S.2 26) qb.1 qb.2) 12 0, md_set h m (va_up S.1 28 (nI qb.2), S.2)) := by
  unfold f_MD_orderOfWords
  simp only [md_o, Option.bind_some]
  rw [md_part h m S (v := S.2 24) (N := NA) (Or.inr ⟨rfl, rfl⟩) (by omega) hp (by rw [if_neg (by decide)]; exact hSa), ha]
  simp only [Option.bind_some, md_i28, va_up_self, md_o]
  rw [md_part h m (va_up S.1 28 (nI qa.2), S.2) (v := S.2 26) (N := NB) (Or.inl ⟨rfl, rfl⟩) (by omega) hp (show (if (0 : Int32) = 0 then (va_up S.1 28 (nI qa.2)) 27 else (va_up S.1 28 (nI qa.2)) 25) = nI NB by rw [if_pos rfl, va_up_ne _ _ (by decide)]; exact hSb), hb]
  simp only [Option.bind_some, bx_uu]
  obtain ⟨a1, a2, -⟩ := pv_spec ha
  obtain ⟨b1, b2, -⟩ := pv_spec hb
  exact md_ow_L h m _ a1 (by omega) b1 (by omega) (show (va_up S.1 28 (nI qb.2)) 28 = nI qb.2 from va_up_self _ _ _) FU 0 (by omega) (FU_big (by omega))
/-- a version: valid characters, a digit first, at most 12 -/
def VerP (v : Nat → Int32) (N : Nat) : Prop := N ≤ 12 ∧ (∀ j, j < N → VC (v j)) ∧ (0 < N → Dg (v 0))
theorem pts_0 {v : Nat → Int32} {N n p : Nat} {q : Nat × Nat} (hv : VerP v N) (hn : N < n) (h : (pts v N n 0)[p]? = some q) (hd : ¬ Dg (v q.1)) : 0 < q.1 := by
  rcases Nat.eq_zero_or_pos q.1 with h0 | h0
  · rw [h0] at hd
    have := (pts_spec v N n 0 q (List.mem_of_getElem? h))
    exact absurd (hv.2.2 (by have h1 := this.1; have h2 := this.2.1; omega)) hd
  · exact h0
/-- the reference's step of the order of two parts, and the class's: they say the same -/
theorem cmp_part {va vb : Nat → Int32} {NA NB p : Nat} (hA : VerP va NA) (hB : VerP vb NB) :
    (nb va (pv va NA p) ≠ nb vb (pv vb NB p) → pn va (pv va NA p) ≠ pn vb (pv vb NB p) ∧ (pn va (pv va NA p) < pn vb (pv vb NB p) ↔ nb va (pv va NA p) < nb vb (pv vb NB p))) ∧
    (nb va (pv va NA p) = nb vb (pv vb NB p) → 0 ≤ nb va (pv va NA p) → pn va (pv va NA p) = pn vb (pv vb NB p)) ∧
    (nb va (pv va NA p) = nb vb (pv vb NB p) → ¬ 0 ≤ nb va (pv va NA p) → ∃ qa qb, pv va NA p = some qa ∧ pv vb NB p = some qb ∧ ow (wc va qa.1 qa.2) (wc vb qb.1 qb.2) 12 0 = if pn va (pv va NA p) = pn vb (pv vb NB p) then 0 else if pn va (pv va NA p) < pn vb (pv vb NB p) then -1 else 1) := by
  have kind : ∀ {v : Nat → Int32} {N : Nat}, VerP v N → (∃ r : Nat, r < 10 ^ 12 ∧ nb v (pv v N p) = lN r ∧ pn v (pv v N p) = lN r) ∨ (∃ q, pv v N p = some q ∧ PtP v N q ∧ 0 < q.1 ∧ ¬ Dg (v q.1) ∧ nb v (pv v N p) = -1 ∧ pn v (pv v N p) = -5559060566555523 + lN (cdg (wc v q.1 q.2) 11 0) ∧ cdg (wc v q.1 q.2) 11 0 < 27 ^ 11) := by
    intro v N hv
    cases hq : pv v N p with
    | none => exact Or.inl ⟨0, by decide, rfl, rfl⟩
    | some q =>
      have hs := pv_spec hq
      by_cases hd : Dg (v q.1)
      · obtain ⟨r, h1, h2, h3⟩ := pn_num hs hv.1 hd
        refine Or.inl ⟨r, h3, ?_, h1⟩
        simp only [nb]; rw [if_pos hd]; exact h2
      · have h0 := pts_0 hv (FU_big (by have := hv.1; omega)) hq hd
        obtain ⟨h1, h2⟩ := pn_word hs hv.1 h0 hv.2.1 hd
        refine Or.inr ⟨q, rfl, hs, h0, hd, ?_, h1, h2⟩
        simp only [nb]; rw [if_neg hd]
  have m1 : (-1 : Int64).toInt = -1 := by decide
  rcases kind hA with ⟨ra, ha1, ha2, ha3⟩ | ⟨qa, ha0, ha1, ha2, ha3, ha4, ha5, ha6⟩ <;> rcases kind hB with ⟨rb, hb1, hb2, hb3⟩ | ⟨qb, hb0, hb1, hb2, hb3, hb4, hb5, hb6⟩
  · rw [ha2, ha3, hb2, hb3]
    refine ⟨fun z => ⟨z, Iff.rfl⟩, fun z _ => z, fun _ z => absurd ?_ z⟩
    rw [Int64.le_iff_toInt_le, pk_lT (by omega)]
    show (0 : Int) ≤ _
    omega
  · rw [ha2, ha3, hb4, hb5]
    have t1 : (lN ra).toInt = ra := pk_lT (by omega)
    have t2 := i64_word hb6
    have hne : lN ra ≠ (-1 : Int64) := fun z => by have := congrArg Int64.toInt z; rw [t1, m1] at this; omega
    refine ⟨fun _ => ⟨fun z => ?_, ?_⟩, fun z => absurd z hne, fun z => absurd z hne⟩
    · have := congrArg Int64.toInt z; rw [t1, t2] at this; omega
    · rw [Int64.lt_iff_toInt_lt, Int64.lt_iff_toInt_lt, t1, t2, m1]; omega
  · rw [ha4, ha5, hb2, hb3]
    have t1 : (lN rb).toInt = rb := pk_lT (by omega)
    have t2 := i64_word ha6
    have hne : (-1 : Int64) ≠ lN rb := fun z => by have := congrArg Int64.toInt z; rw [t1, m1] at this; omega
    refine ⟨fun _ => ⟨fun z => ?_, ?_⟩, fun z => absurd z hne, fun z => absurd z hne⟩
    · have := congrArg Int64.toInt z; rw [t1, t2] at this; omega
    · rw [Int64.lt_iff_toInt_lt, Int64.lt_iff_toInt_lt, t1, t2, m1]; omega
  · have e1 := ha4
    have e2 := hb4
    have e3 := ha5
    have e4 := hb5
    rw [e1, e2, e3, e4, ha0, hb0]
    refine ⟨fun z => absurd rfl z, fun _ z => absurd z (by decide), fun _ _ => ⟨qa, qb, rfl, rfl, ?_⟩⟩
    have la := pt_lr ha1 hA.2.1 ha3
    have lb := pt_lr hb1 hB.2.1 hb3
    have wa : ∀ j, 0 ≤ j → j < 0 + 11 → wc va qa.1 qa.2 j = 0 ∨ Lr (wc va qa.1 qa.2 j) := fun j _ _ => by
      unfold wc
      by_cases hj : qa.2 ≤ qa.1 + j
      · rw [if_pos hj]; exact Or.inl rfl
      · rw [if_neg hj]; exact Or.inr (la _ (by omega) (by omega))
    have wb : ∀ j, 0 ≤ j → j < 0 + 11 → wc vb qb.1 qb.2 j = 0 ∨ Lr (wc vb qb.1 qb.2 j) := fun j _ _ => by
      unfold wc
      by_cases hj : qb.2 ≤ qb.1 + j
      · rw [if_pos hj]; exact Or.inl rfl
      · rw [if_neg hj]; exact Or.inr (lb _ (by omega) (by omega))
    have z11 : ow (wc va qa.1 qa.2) (wc vb qb.1 qb.2) 12 0 = ow (wc va qa.1 qa.2) (wc vb qb.1 qb.2) 11 0 := by
      have x1 : wc va qa.1 qa.2 11 = 0 := by unfold wc; rw [if_pos (by have := ha1.2.1; have := hA.1; omega)]
      have x2 : wc vb qb.1 qb.2 11 = 0 := by unfold wc; rw [if_pos (by have := hb1.2.1; have := hB.1; omega)]
      simp only [ow, x1, x2, if_pos]
    rw [z11, ow_cdg _ _ 11 0 wa wb]
    generalize cdg (wc va qa.1 qa.2) 11 0 = ca at ha6 ⊢
    generalize cdg (wc vb qb.1 qb.2) 11 0 = cb at hb6 ⊢
    have t1 := i64_word ha6
    have t2 := i64_word hb6
    have i1 : (-5559060566555523 + lN ca = -5559060566555523 + lN cb) ↔ ca = cb := ⟨fun z => by have := congrArg Int64.toInt z; rw [t1, t2] at this; omega, fun z => by rw [z]⟩
    have i2 : (-5559060566555523 + lN ca < -5559060566555523 + lN cb) ↔ ca < cb := by rw [Int64.lt_iff_toInt_lt, t1, t2]; omega
    simp only [i1, i2]
theorem md_order_L {NA NB : Nat} (hA : VerP (S.2 24) NA) (hB : VerP (S.2 26) NB) : ∀ (n p : Nat) (e : Int32), p ≤ 12 → 12 - p < n → S.1 25 = nI NA → S.1 27 = nI NB → ∃ e' : Int32, f_MD_order_L2 n m (nI p) (md_set h m (va_up S.1 28 e, S.2)) = some (cmpP (fun p => pn (S.2 24) (pv (S.2 24) NA p)) (fun p => pn (S.2 26) (pv (S.2 26) NB p)) (12 - p) p, md_set h m (va_up S.1 28 e', S.2)) := by
  intro n
  induction n with
  | zero => intro p e _ hn; omega
  | succ n ih =>
    intro p e hp hn h25 h27
    simp only [f_MD_order_L2]
    by_cases hlt : p < 12
    · rw [if_neg (show ¬ (12 : Int32) ≤ nI p from nI_ge (b := 12) hlt (by omega)), show 12 - p = (12 - (p + 1)) + 1 by omega, cmpP]
      simp only [md_o, Option.bind_some]
      have u25 : ∀ x, (va_up S.1 28 x) 25 = nI NA := fun x => by rw [va_up_ne _ _ (by decide)]; exact h25
      have u27 : ∀ x, (va_up S.1 28 x) 27 = nI NB := fun x => by rw [va_up_ne _ _ (by decide)]; exact h27
      have n1 : ∀ x, ∃ x', f_MD_number (md_set h m (va_up S.1 28 x, S.2)) m 1 (nI p) = some (nb (S.2 24) (pv (S.2 24) NA p), md_set h m (va_up S.1 28 x', S.2)) := by
        intro x
        have := md_number h m (va_up S.1 28 x, S.2) (y1 := 1) (v := S.2 24) (N := NA) (p := p) (Or.inr ⟨rfl, rfl⟩) (by have := hA.1; omega) (by omega) (by rw [if_neg (by decide)]; exact u25 x)
        rw [this]
        cases pv (S.2 24) NA p with
        | none => exact ⟨x, rfl⟩
        | some q => exact ⟨nI q.2, by simp only [bx_uu]⟩
      have n2 : ∀ x, ∃ x', f_MD_number (md_set h m (va_up S.1 28 x, S.2)) m 0 (nI p) = some (nb (S.2 26) (pv (S.2 26) NB p), md_set h m (va_up S.1 28 x', S.2)) := by
        intro x
        have := md_number h m (va_up S.1 28 x, S.2) (y1 := 0) (v := S.2 26) (N := NB) (p := p) (Or.inl ⟨rfl, rfl⟩) (by have := hB.1; omega) (by omega) (by rw [if_pos rfl]; exact u27 x)
        rw [this]
        cases pv (S.2 26) NB p with
        | none => exact ⟨x, rfl⟩
        | some q => exact ⟨nI q.2, by simp only [bx_uu]⟩
      obtain ⟨x1, k1⟩ := n1 e
      obtain ⟨x2, k2⟩ := n2 x1
      rw [k1]
      simp only [Option.bind_some, md_o]
      rw [k2]
      simp only [Option.bind_some, md_o]
      obtain ⟨c1, c2, c3⟩ := cmp_part (p := p) hA hB
      by_cases heq : nb (S.2 24) (pv (S.2 24) NA p) = nb (S.2 26) (pv (S.2 26) NB p)
      · rw [if_pos ((lg_cmp_eq _ _).mpr heq)]
        by_cases hge : 0 ≤ nb (S.2 24) (pv (S.2 24) NA p)
        · rw [if_pos ((lg_cmp_ge _ _).mpr hge), if_pos (c2 heq hge), nI_1]
          exact ih (p + 1) x2 (by omega) (by omega) h25 h27
        · rw [if_neg (fun z => hge ((lg_cmp_ge _ _).mp z))]
          obtain ⟨qa, qb, q1, q2, q3⟩ := c3 heq hge
          have ow' := md_ow h m (va_up S.1 28 x2, S.2) (p := p) (NA := NA) (NB := NB) (by omega) (by have := hA.1; omega) (by have := hB.1; omega) (u25 x2) (u27 x2) q1 q2
          simp only [bx_uu] at ow'
          rw [ow']
          simp only [Option.bind_some]
          rw [q3]
          by_cases h1 : pn (S.2 24) (pv (S.2 24) NA p) = pn (S.2 26) (pv (S.2 26) NB p)
          · rw [if_pos h1, if_pos rfl, if_pos h1, nI_1]
            exact ih (p + 1) _ (by omega) (by omega) h25 h27
          · rw [if_neg h1, if_neg h1]
            refine ⟨nI qb.2, ?_⟩
            by_cases h2 : pn (S.2 24) (pv (S.2 24) NA p) < pn (S.2 26) (pv (S.2 26) NB p)
            · rw [if_pos h2, if_neg (by decide)]
            · rw [if_neg h2, if_neg (by decide)]
      · obtain ⟨d1, d2⟩ := c1 heq
        rw [if_neg (fun z => heq ((lg_cmp_eq _ _).mp z)), if_neg d1]
        refine ⟨x2, ?_⟩
        by_cases h2 : nb (S.2 24) (pv (S.2 24) NA p) < nb (S.2 26) (pv (S.2 26) NB p)
        · rw [if_neg (fun z => absurd ((lg_cmp_ge _ _).mp z) (Int64.not_le.mpr h2)), if_pos (d2.mpr h2)]
        · rw [if_pos ((lg_cmp_ge _ _).mpr (Int64.not_lt.mp h2)), if_neg (fun z => h2 (d2.mp z))]
    · have hkN : p = 12 := by omega
      subst hkN
      rw [if_pos (show (12 : Int32) ≤ nI 12 from nI_le (Nat.le_refl _) (by omega)), Nat.sub_self, cmpP]
      exact ⟨e, rfl⟩
/-- the order of two versions -/
noncomputable def vord (v : Nat → Int32) (N : Nat) (v' : Nat → Int32) (N' : Nat) : Int32 := cmpP (fun p => pn v (pv v N p)) (fun p => pn v' (pv v' N' p)) 12 0
theorem md_order {NA NB : Nat} (hA : VerP (S.2 24) NA) (hB : VerP (S.2 26) NB) (h25 : S.1 25 = nI NA) (h27 : S.1 27 = nI NB) : ∃ e' : Int32, f_MD_order (md_set h m S) m = some (vord (S.2 24) NA (S.2 26) NB, md_set h m (va_up S.1 28 e', S.2)) := by
  have := md_order_L h m S hA hB FU 0 (S.1 28) (by omega) (FU_big (by omega)) h25 h27
  rw [show va_up S.1 28 (S.1 28) = S.1 from funext fun j => by unfold va_up; split; (· rename_i hj; rw [hj]); (· rfl)] at this
  exact this
end MDP
