/-! ===== resolving: the class's draft against the working entries ===== -/
def DepOk (S : MS) (N D : Nat) : Prop := ∃ i k, i < N ∧ k < ndc S i ∧ D = i * 6 + k
/-- the draft holds the entries W -/
def RepD (Z : ES) (W : WS) (S : MS) (N : Nat) (ga gd : Nat → Nat) : Prop := Z.1 = nI W.1 ∧ ∀ e, e < W.1 → Z.2.1 e = some (ga (W.2.1 e)) ∧ Z.2.2.1 e = nI (W.2.2.1 e) ∧ (0 < e → Z.2.2.2.1 e = nI (W.2.2.2.1 e) ∧ Z.2.2.2.2 e = some (gd (W.2.2.2.2 e)) ∧ DepOk S N (W.2.2.2.2 e))
section RSV
variable {g : hp_H} {x : Nat} {l p n u : Int32} {c : Nat → Int32} {A : Nat → Option Nat} {s d : Nat} {E : Nat → ES} {S : MS} {ga gd : Nat → Nat} {N : Nat}
theorem TbC.depV (ht : TbC (x + 35) g A S ga gd N) {D : Nat} (hD : DepOk S N D) : DepV S D ∧ DepC (x + 35) g S D (gd D) := by
  obtain ⟨i, k, i1, k1, rfl⟩ := hD
  exact ⟨(ht.1.2.2 i i1).2.2.2.2 k k1, ht.2.2.2.1 i k i1 k1⟩
theorem cl_excl_L (ht : TbC (x + 35) g A S ga gd N) {D q ne : Nat} {t : Nat → Int32} (hD : DepOk S N D) (hq : NmP t 0 q) (hne : S.2 14 D = nI ne) (hne3 : ne ≤ 3) : ∀ (f e : Nat), e ≤ ne → ne - e < f → f_DP_excludes_L2 f (gd D) (nmv t q 0 0) (nI e) (cb g x l p n u c A s d E) = some (zi (∃ y, e ≤ y ∧ y < ne ∧ ExcE S t q (D * 3 + y)), (cb g x l p n u c A s d E)) := by
  obtain ⟨hV, d1, d2, r, xf, d3, d4, d5, d6⟩ := ht.depV hD
  obtain ⟨ne', n1, n2, n3⟩ := hV.ne
  have hee : ne' = ne := (nI_eq (by omega) (by omega)).mp (n2.symm.trans hne)
  subst hee
  have ec : (cb g x l p n u c A s d E).1 (gd D) = some (.inr (4, [.long (nmv (dtx S D) (dq S D) 0 0), .ref r, .int (S.2 11 D), .ref (gd D + 1), .int (S.2 14 D)])) := by rw [cb_out (by omega)]; exact d3
  have e4 : hp_fI (cb g x l p n u c A s d E) (some (gd D)) 4 4 = some (S.2 14 D) := hp_fI_of ec rfl
  have e3 : hp_fR (cb g x l p n u c A s d E) (some (gd D)) 4 3 = some (some (gd D + 1)) := hp_fR_ref ec rfl
  intro f
  induction f with
  | zero => intro e _ hf; omega
  | succ f ih =>
    intro e he hf
    simp only [f_DP_excludes_L2, e4, e3, Option.bind_some, n2]
    by_cases hlt : e < ne'
    · rw [if_neg (nI_ge hlt (by omega)), hp_aL_at (n := 3) (f := xf) (by rw [cb_out (by omega)]; exact d5) (by omega) (by decide), Option.bind_some, d6 e (by rw [n2, nI_clamp (by omega)]; exact hlt)]
      obtain ⟨m1, m2⟩ := n3 e hlt
      have hi := nm_inj m2 hq
      have x8 := m2.2.1
      have q8 := hq.2.1
      have hE : ExcE S t q (D * 3 + e) ↔ nmv (xtx S (D * 3 + e)) (xl S (D * 3 + e)) 0 0 = nmv t q 0 0 := by
        rw [hi]
        unfold ExcE
        constructor
        · rintro ⟨k1, k2⟩
          have e1 : xl S (D * 3 + e) = q := (nI_eq (by omega) (by omega)).mp (m1.symm.trans k1)
          exact ⟨e1, fun k hk => k2 k (by omega)⟩
        · rintro ⟨k1, k2⟩
          exact ⟨by rw [m1, k1], fun k hk => k2 k (by omega)⟩
      by_cases c1 : ExcE S t q (D * 3 + e)
      · rw [if_pos ((lg_cmp_eq _ _).mpr (hE.mp c1)), zi_1 ⟨e, Nat.le_refl _, hlt, c1⟩]
      · rw [if_neg (fun z => c1 (hE.mpr ((lg_cmp_eq _ _).mp z))), nI_1, ih (e + 1) (by omega) (by omega)]
        refine congrArg (fun y => some (y, _)) (zi_congr ?_)
        constructor
        · rintro ⟨y, y1, y2, y3⟩
          exact ⟨y, by omega, y2, y3⟩
        · rintro ⟨y, y1, y2, y3⟩
          refine ⟨y, ?_, y2, y3⟩
          rcases Nat.eq_or_lt_of_le y1 with w | w
          · rw [← w] at y3; exact absurd y3 c1
          · exact w
    · have : e = ne' := by omega
      subst this
      rw [if_pos (nI_le (Nat.le_refl _) (by omega)), zi_0]
      rintro ⟨y, y1, y2, -⟩
      omega
theorem cl_excl (ht : TbC (x + 35) g A S ga gd N) {D q : Nat} {t : Nat → Int32} (hD : DepOk S N D) (hq : NmP t 0 q) : hp_o (cb g x l p n u c A s d E) (some (gd D)) 4 = some (gd D) ∧ f_DP_excludes (cb g x l p n u c A s d E) (gd D) (nmv t q 0 0) = some (zi (ExcD S t q D), (cb g x l p n u c A s d E)) := by
  obtain ⟨hV, d1, d2, r, xf, d3, -⟩ := ht.depV hD
  obtain ⟨ne, n1, n2, n3⟩ := hV.ne
  refine ⟨hp_o_of (by rw [cb_out (by omega)]; exact d3), ?_⟩
  have := cl_excl_L (l := l) (p := p) (n := n) (u := u) (c := c) (s := s) (d := d) (E := E) ht hD hq n2 n1 FU 0 (Nat.zero_le _) (FU_big (by omega))
  show f_DP_excludes_L2 FU (gd D) (nmv t q 0 0) (nI 0) (cb g x l p n u c A s d E) = _
  rw [this]
  refine congrArg (fun y => some (y, _)) (zi_congr ?_)
  unfold ExcD
  rw [n2, nI_clamp (by omega)]
  exact ⟨fun ⟨y, _, y2, y3⟩ => ⟨y, y2, y3⟩, fun ⟨y, y2, y3⟩ => ⟨y, Nat.zero_le _, y2, y3⟩⟩
theorem cl_bars_L (ht : TbC (x + 35) g A S ga gd N) (hd : d ≤ 1) {W : WS} (hW : WokP S N W) (hR : RepD (E d) W S N ga gd) {q : Nat} {t : Nat → Int32} (hq : NmP t 0 q) : ∀ (f k e : Nat), e < W.1 → k ≤ 20 → 20 - k < f → f_EL_bars_L6 f (x + 4 + 5 * d) (nmv t q 0 0) (nI e) (nI k) (cb g x l p n u c A s d E) = some (zi (brd S t q W (20 - k) e), (cb g x l p n u c A s d E)) := by
  have hN := ht.1.1
  have hWN := hW.2.2.2
  intro f
  induction f with
  | zero => intro k e _ _ hf; omega
  | succ f ih =>
    intro k e he hk hf
    simp only [f_EL_bars_L6]
    by_cases hlt : k < 20
    · rw [if_neg (show ¬ (20 : Int32) ≤ nI k from nI_ge (b := 20) hlt (by decide)), show 20 - k = (20 - (k + 1)) + 1 by omega, brd]
      by_cases h0 : e = 0
      · subst h0
        rw [if_pos (show nI 0 ≤ 0 by decide), zi_0 (fun z => z.1 rfl)]
      · obtain ⟨-, -, r3⟩ := hR.2 e he
        obtain ⟨r4, r5, r6⟩ := r3 (by omega)
        obtain ⟨x1, x2⟩ := cl_excl (l := l) (p := p) (n := n) (u := u) (c := c) (s := s) (d := d) (E := E) ht r6 hq
        have hpar := hW.2.2.1 e he (by omega)
        rw [if_neg (nI_nle (by omega) (by omega))]
        simp only [cb_q3 hd, cb_q2 hd, Option.bind_some]
        rw [hp_aR_at (cb_e4 hd) (by omega) (by decide), r5]
        simp only [Option.bind_some, x1, x2, cb_q2 hd]
        by_cases c1 : ExcD S t q (W.2.2.2.2 e)
        · rw [if_neg (fun z => zi_eq0.mp z c1), zi_1 ⟨h0, Or.inl c1⟩]
        · rw [if_pos (zi_eq0.mpr c1), hp_aI_at (cb_e3 hd) (by omega) (by decide), r4, Option.bind_some, nI_1, ih (k + 1) _ (by omega) (by omega) (by omega)]
          refine congrArg (fun y => some (y, _)) (zi_congr ?_)
          exact ⟨fun z => ⟨h0, Or.inr z⟩, fun z => z.2.resolve_left c1⟩
    · have : k = 20 := by omega
      subst this
      rw [if_pos (show (20 : Int32) ≤ nI 20 by decide), Nat.sub_self, brd, zi_0 (fun z => z)]
theorem cl_named_L (ht : TbC (x + 35) g A S ga gd N) (hd : d ≤ 1) {W : WS} (hW : WokP S N W) (hR : RepD (E d) W S N ga gd) {q : Nat} {t : Nat → Int32} (hq : NmP t 0 q) : ∀ (f e : Nat), e ≤ W.1 → W.1 - e < f → f_EL_artifactNamed_L2 f (x + 4 + 5 * d) (nmv t q 0 0) (nI e) (cb g x l p n u c A s d E) = some ((fsn (fun j => NmEq S (W.2.1 j) t q) (W.1 - e) e).map (fun j => ga (W.2.1 j)), (cb g x l p n u c A s d E)) := by
  have hN := ht.1.1
  have hWN := hW.2.2.2
  intro f
  induction f with
  | zero => intro e _ hf; omega
  | succ f ih =>
    intro e he hf
    simp only [f_EL_artifactNamed_L2, cb_q4 hd, cb_q0 hd, Option.bind_some, hR.1]
    by_cases hlt : e < W.1
    · obtain ⟨r1, r2, -⟩ := hR.2 e hlt
      have ha := (hW.2.1 e hlt).1
      obtain ⟨v, ch, df, q1, -⟩ := (ht.2.2.1 _ ha).2
      have hV := (ht.1.2.2 _ ha).1
      have elo := q1.1
      have e1 : hp_fL (cb g x l p n u c A s d E) (some (ga (W.2.1 e))) 3 1 = some (nmv (fun j => S.2 6 (W.2.1 e * 21 + j)) (tc S (W.2.1 e)) 0 0) := hp_fL_of (by rw [cb_out (by omega)]; exact q1.2.2) rfl
      rw [if_neg (nI_ge hlt (by omega)), show W.1 - e = (W.1 - (e + 1)) + 1 by omega, fsn, hp_aR_at (cb_e1 hd) (by omega) (by decide), r1]
      simp only [Option.bind_some, e1]
      have hi := nm_inj hV.2.1 hq
      have hco : S.2 7 (W.2.1 e) = nI (tc S (W.2.1 e)) := hV.1.2.2.1
      have hc21 := hV.len
      have q8 := hq.2.1
      have hE : NmEq S (W.2.1 e) t q ↔ nmv (fun j => S.2 6 (W.2.1 e * 21 + j)) (tc S (W.2.1 e)) 0 0 = nmv t q 0 0 := by
        rw [hi]
        unfold NmEq
        constructor
        · rintro ⟨k1, k2⟩
          have e1 : tc S (W.2.1 e) = q := (nI_eq (by omega) (by omega)).mp (hco.symm.trans k1)
          exact ⟨e1, fun k hk => k2 k (by omega)⟩
        · rintro ⟨k1, k2⟩
          exact ⟨by rw [hco, k1], fun k hk => k2 k (by omega)⟩
      by_cases c1 : NmEq S (W.2.1 e) t q
      · rw [if_pos ((lg_cmp_eq _ _).mpr (hE.mp c1)), if_pos c1]
        rfl
      · rw [if_neg (fun z => c1 (hE.mpr ((lg_cmp_eq _ _).mp z))), if_neg c1, nI_1]
        exact ih (e + 1) (by omega) (by omega)
    · have : e = W.1 := by omega
      subst this
      rw [if_pos (nI_le (Nat.le_refl _) (by omega)), Nat.sub_self]
      rfl
theorem cl_elAdd (hd : d ≤ 1) {m e a D : Nat} {dp : Int32} {f3 f4 : List Value} (hz : (E d).1 = nI m) (hm : m < 20) (he : e < 20) (hem : e ≠ m) (hdp : (E d).2.2.1 e = dp) (ha : g.1 a = some (.inr (3, f3))) (hD : g.1 D = some (.inr (4, f4))) (hxa : x + 14 ≤ a) (hxD : x + 14 ≤ D) : f_EL_add (cb g x l p n u c A s d E) (x + 4 + 5 * d) (some a) (nI e) (some D) = some (cb g x l p n u c A s d (va_up E d (nI (m + 1), va_up (E d).2.1 m (some a), va_up (E d).2.2.1 m (dp + 1), va_up (E d).2.2.2.1 m (nI e), va_up (E d).2.2.2.2 m (some D)))) := by
  have iA : ∀ E : Nat → ES, hp_is (cb g x l p n u c A s d E) (some a) 3 = true := fun E => hp_is_of (fs := f3) (by rw [cb_out hxa]; exact ha)
  have iD : ∀ E : Nat → ES, hp_is (cb g x l p n u c A s d E) (some D) 4 = true := fun E => hp_is_of (fs := f4) (by rw [cb_out hxD]; exact hD)
  have xa : ∀ E : Nat → ES, hp_aI (cb g x l p n u c A s d E) (some (x + 4 + 5 * d + 2)) 0 (nI e) = some ((E d).2.2.1 e) := fun E => hp_aI_at (cb_e2 hd) he (by decide)
  unfold f_EL_add
  simp only [cb_q4 hd, cb_q0 hd, cb_q1 hd, cb_q2 hd, Option.bind_some, hz]
  rw [if_neg (show ¬ (20 : Int32) ≤ nI m from nI_ge (b := 20) hm (by decide)), cb_x1 hd hm (iA _)]
  simp only [Option.bind_some, cb_q4 hd, cb_q0 hd, cb_q1 hd, cb_q2 hd, cb_q3 hd, va_up_self, hz, xa, hdp, cb_x2 hd hm, cb_x3 hd hm, va_up_up]
  rw [cb_xr hd hm (iD _)]
  simp only [Option.bind_some, cb_q4 hd, va_up_self, cb_x4 hd, va_up_up, nI_1, hz]
theorem cl_elBegin (hd : d ≤ 1) {a : Nat} {f3 : List Value} (ha : g.1 a = some (.inr (3, f3))) (hxa : x + 14 ≤ a) : f_EL_begin (cb g x l p n u c A s d E) (x + 4 + 5 * d) (some a) = some (cb g x l p n u c A s d (va_up E d (1, va_up (E d).2.1 0 (some a), va_up (E d).2.2.1 0 0, va_up (E d).2.2.2.1 0 (-1), va_up (E d).2.2.2.2 0 none))) := by
  have iA : ∀ E : Nat → ES, hp_is (cb g x l p n u c A s d E) (some a) 3 = true := fun E => hp_is_of (fs := f3) (by rw [cb_out hxa]; exact ha)
  have s1 : ∀ E : Nat → ES, hp_sR (cb g x l p n u c A s d E) (some (x + 4 + 5 * d + 1)) 4 3 (0 : Int32) (some a) = some (cb g x l p n u c A s d (va_up E d ((E d).1, va_up (E d).2.1 0 (some a), (E d).2.2))) := fun E => cb_x1 (i := 0) hd (by decide) (iA E)
  have s2 : ∀ E : Nat → ES, hp_sI (cb g x l p n u c A s d E) (some (x + 4 + 5 * d + 2)) 0 (0 : Int32) 0 = some (cb g x l p n u c A s d (va_up E d ((E d).1, (E d).2.1, va_up (E d).2.2.1 0 0, (E d).2.2.2))) := fun E => cb_x2 (i := 0) hd (by decide)
  have s3 : ∀ E : Nat → ES, hp_sI (cb g x l p n u c A s d E) (some (x + 4 + 5 * d + 3)) 0 (0 : Int32) (-1) = some (cb g x l p n u c A s d (va_up E d ((E d).1, (E d).2.1, (E d).2.2.1, va_up (E d).2.2.2.1 0 (-1), (E d).2.2.2.2))) := fun E => cb_x3 (i := 0) hd (by decide)
  have s4 : ∀ E : Nat → ES, hp_sR (cb g x l p n u c A s d E) (some (x + 4 + 5 * d + 4)) 5 4 (0 : Int32) none = some (cb g x l p n u c A s d (va_up E d ((E d).1, (E d).2.1, (E d).2.2.1, (E d).2.2.2.1, va_up (E d).2.2.2.2 0 none))) := fun E => cb_xr (i := 0) hd (by decide) hp_is_none
  unfold f_EL_begin
  simp only [cb_q0 hd, cb_q1 hd, cb_q2 hd, cb_q3 hd, Option.bind_some, s1, s2, s3, s4, va_up_self, va_up_up, cb_x4 hd]
end RSV
