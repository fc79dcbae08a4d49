/-! ===== resolving: follow and fillDraft ===== -/
section RSV2
variable {g : hp_H} {x : Nat} {l p u : Int32} {c : Nat → Int32} {A : Nat → Option Nat} {s d : Nat} {E : Nat → ES} {S : MS} {ga gd : Nat → Nat} {N : Nat}
/-- a dependency's text: its name, and the colon before its end -/
theorem DepV.nm {D : Nat} (h : DepV S D) : NmP (dtx S D) 0 (dq S D) ∧ dq S D + 1 ≤ dl S D ∧ RgP (dtx S D) (dq S D + 1) (dl S D) := by
  obtain ⟨f1, f2, -, -⟩ := fx_spec (dtx S D) 58 (dl S D) 0
  have hL := h.txt.2.2
  have h1 := hL.2.1
  exact ⟨hL.1, by unfold dq; omega, hL.2.2⟩
theorem cl_follow (ht : TbC (x + 35) g A S ga gd N) (hd : d ≤ 1) {W : WS} {Z : ES} (hW : WokP S N W) (hR : RepD Z W S N ga gd) {e D : Nat} (he : e < W.1) (hD : DepOk S N D) : ∃ Z', f_LL_follow (cb g x l p (nI N) u c A s d (va_up E d Z)) x (nI e) (some (gd D)) = some ((ndS S N W e D).1, (cb g x l p (nI N) u c A s d (va_up E d Z'))) ∧ RepD Z' (ndS S N W e D).2 S N ga gd := by
  have hN := ht.1.1
  have hWN := hW.2.2.2
  have hR' : RepD ((va_up E d Z) d) W S N ga gd := by rw [va_up_self]; exact hR
  obtain ⟨hV, d1, d2, r, xf, d3, d4, d5, d6⟩ := ht.depV hD
  obtain ⟨hnm, hq1, hrg⟩ := hV.nm
  have ec : (cb g x l p (nI N) u c A s d (va_up E d Z)).1 (gd D) = some (.inr (4, [.long (nmv (dtx S D) (dq S D) 0 0), .ref r, .int (S.2 11 D), .ref (gd D + 1), .int (S.2 14 D)])) := by rw [cb_out (by omega)]; exact d3
  have e0 : hp_fL (cb g x l p (nI N) u c A s d (va_up E d Z)) (some (gd D)) 4 0 = some (nmv (dtx S D) (dq S D) 0 0) := hp_fL_of ec rfl
  have e1 : hp_fR (cb g x l p (nI N) u c A s d (va_up E d Z)) (some (gd D)) 4 1 = some (some r) := hp_fR_ref ec rfl
  have e2 : hp_fI (cb g x l p (nI N) u c A s d (va_up E d Z)) (some (gd D)) 4 2 = some (S.2 11 D) := hp_fI_of ec rfl
  have eb : f_EL_bars (cb g x l p (nI N) u c A s d (va_up E d Z)) (x + 4 + 5 * d) (nI e) (nmv (dtx S D) (dq S D) 0 0) = some (zi (brd S (dtx S D) (dq S D) W 20 e), (cb g x l p (nI N) u c A s d (va_up E d Z))) := cl_bars_L ht hd hW hR' hnm FU 0 e he (by omega) (FU_big (by omega))
  have en : f_EL_artifactNamed (cb g x l p (nI N) u c A s d (va_up E d Z)) (x + 4 + 5 * d) (nmv (dtx S D) (dq S D) 0 0) = some ((fsn (fun j => NmEq S (W.2.1 j) (dtx S D) (dq S D)) W.1 0).map (fun j => ga (W.2.1 j)), (cb g x l p (nI N) u c A s d (va_up E d Z))) := cl_named_L ht hd hW hR' hnm FU 0 (Nat.zero_le _) (FU_big (by omega))
  have ed : hp_aI (cb g x l p (nI N) u c A s d (va_up E d Z)) (some (x + 4 + 5 * d + 2)) 0 (nI e) = some (nI (W.2.2.1 e)) := by
    rw [hp_aI_at (cb_e2 hd) (by omega) (by decide), (hR'.2 e he).2.1]
  have ep : f_LL_pickFor (cb g x l p (nI N) u c A s d (va_up E d Z)) x (nmv (dtx S D) (dq S D) 0 0) (some r) = some ((pkF (okC S (dtx S D) (dq S D) (dl S D)) (abP S) N 0 none).map ga, (cb g x l p (nI N) u c A s d (va_up E d Z))) := cl_pickS ht d4 hnm
  have hdep := (hW.2.1 e he).2
  obtain ⟨sp1, sp2, sp3, sp4⟩ := ndS_spec ht.1 hW he hV
  have key : f_LL_follow (cb g x l p (nI N) u c A s d (va_up E d Z)) x (nI e) (some (gd D)) = @ite _ (S.2 11 D ≠ 0 ∧ W.2.2.1 e ≠ 0) (Classical.propDecidable _) (some (0, (cb g x l p (nI N) u c A s d (va_up E d Z)))) (f_LL_follow_L19 x (nI e) (some (gd D)) (cb g x l p (nI N) u c A s d (va_up E d Z))) := by
    unfold f_LL_follow
    simp only [e2, cb_r4, cb_q1 hd, ed, Option.bind_some]
    by_cases c1 : S.2 11 D = 0
    · rw [if_pos c1, if_neg (fun z => z.1 c1)]
    · rw [if_neg c1]
      by_cases c2 : W.2.2.1 e = 0
      · rw [c2, if_pos (show nI 0 = 0 from rfl), if_neg (fun z => z.2 rfl)]
      · rw [if_neg (nI_ne0 (by omega) (by omega)), if_pos ⟨c1, c2⟩]
  rw [key]
  unfold ndS
  by_cases c1 : S.2 11 D ≠ 0 ∧ W.2.2.1 e ≠ 0
  · rw [if_pos c1, if_pos (Or.inr c1)]
    exact ⟨Z, rfl, hR⟩
  · rw [if_neg c1]
    unfold f_LL_follow_L19
    simp only [cb_r4, cb_o2 hd, e0, eb, Option.bind_some]
    by_cases c2 : brd S (dtx S D) (dq S D) W 20 e
    · rw [if_neg (fun z => zi_eq0.mp z c2), if_pos (Or.inl c2)]
      exact ⟨Z, rfl, hR⟩
    · rw [if_pos (zi_eq0.mpr c2), if_neg (fun z => z.elim c2 c1)]
      simp only [cb_r4, cb_o2 hd, e0, en, Option.bind_some]
      cases hf : fsn (fun j => NmEq S (W.2.1 j) (dtx S D) (dq S D)) W.1 0 with
      | some j =>
        obtain ⟨-, j2, -⟩ := (fsn_spec (fun j => NmEq S (W.2.1 j) (dtx S D) (dq S D)) W.1 0).1 j hf
        have ha := (hW.2.1 j (by omega)).1
        obtain ⟨v, ch, df, q1, q2, -⟩ := (ht.2.2.1 _ ha).2
        have elo := q1.1
        have ev : hp_fR (cb g x l p (nI N) u c A s d (va_up E d Z)) (some (ga (W.2.1 j))) 3 2 = some (some v) := hp_fR_ref (by rw [cb_out (by omega)]; exact q1.2.2) rfl
        have hb : Ext (x + 35) g (cb g x l p (nI N) u c A s d (va_up E d Z)) := Ext.cbo (by omega)
        have hh := cl_holds (d4.ext hb) (q2.ext hb)
        obtain ⟨-, rlo, L, H, lp, hq, PL, PH, rc, -⟩ := d4.ext hb
        have ew : hp_fI (cb g x l p (nI N) u c A s d (va_up E d Z)) (some r) 5 0 = some (zi (VrP (dtx S D) (dq S D + 1) (dl S D))) := hp_fI_of rc rfl
        have eo : hp_o (cb g x l p (nI N) u c A s d (va_up E d Z)) (some r) 5 = some r := hp_o_of rc
        rw [Option.map_some, if_neg (by simp)]
        simp only [e1, ew, ev, eo, hh, Option.bind_some]
        by_cases c3 : VrP (dtx S D) (dq S D + 1) (dl S D)
        · rw [if_neg (fun z => zi_eq0.mp z c3), if_pos (Or.inl c3)]
          exact ⟨Z, rfl, hR⟩
        · rw [if_pos (zi_eq0.mpr c3)]
          by_cases c4 : HdP (dtx S D) (dq S D + 1) (dl S D) (prt (avr S (W.2.1 j) (tc S (W.2.1 j))) (vl S (W.2.1 j)))
          · rw [if_neg (fun z => zi_eq0.mp z c4), if_pos (Or.inr (HdP_iff.mpr c4))]
            exact ⟨Z, rfl, hR⟩
          · rw [if_pos (zi_eq0.mpr c4), if_neg (fun z => z.elim c3 (fun w => c4 (HdP_iff.mp w)))]
            exact ⟨Z, rfl, hR⟩
      | none =>
        rw [Option.map_none, if_pos rfl]
        simp only [e0, e1, cb_o0, ep, Option.bind_some]
        cases hp : pkF (okC S (dtx S D) (dq S D) (dl S D)) (abP S) N 0 none with
        | none =>
          rw [Option.map_none, if_pos rfl]
          exact ⟨Z, rfl, hR⟩
        | some a =>
          have haN : a < N := by
            have := (pkF_spec (okC S (dtx S D) (dq S D) (dl S D)) (abP S) N 0 none).1 a hp
            rcases this with w | w
            · cases w
            · omega
          have hWlt : W.1 < 20 := by
            have h5 := sp1.2.2.2
            unfold ndS at h5
            rw [if_neg (fun z => z.elim c2 c1), hf, hp] at h5
            have : W.1 + 1 ≤ N := h5
            omega
          obtain ⟨v, ch, df, q1, -⟩ := (ht.2.2.1 a haN).2
          have elo := q1.1
          rw [Option.map_some, if_neg (by simp)]
          simp only [cb_r4, cb_o2 hd, Option.bind_some]
          rw [cl_elAdd (m := W.1) (dp := nI (W.2.2.1 e)) hd (by rw [va_up_self]; exact hR.1) hWlt (by omega) (by omega) (by rw [va_up_self]; exact (hR.2 e he).2.1) q1.2.2 d3 (by omega) (by omega), Option.bind_some, va_up_up, va_up_self, nI_1]
          refine ⟨_, rfl, rfl, fun e' he' => ?_⟩
          show va_up Z.2.1 W.1 (some (ga a)) e' = some (ga (va_up W.2.1 W.1 a e')) ∧ va_up Z.2.2.1 W.1 (nI (W.2.2.1 e + 1)) e' = nI (va_up W.2.2.1 W.1 (W.2.2.1 e + 1) e') ∧ (0 < e' → va_up Z.2.2.2.1 W.1 (nI e) e' = nI (va_up W.2.2.2.1 W.1 e e') ∧ va_up Z.2.2.2.2 W.1 (some (gd D)) e' = some (gd (va_up W.2.2.2.2 W.1 D e')) ∧ DepOk S N (va_up W.2.2.2.2 W.1 D e'))
          have he2 : e' < W.1 + 1 := he'
          by_cases hee : e' = W.1
          · subst hee
            simp only [va_up_self]
            exact ⟨trivial, trivial, fun _ => ⟨trivial, trivial, hD⟩⟩
          · simp only [va_up_ne _ _ hee]
            exact hR.2 e' (by omega)
theorem cl_fill_40 (ht : TbC (x + 35) g A S ga gd N) (hd : d ≤ 1) {e a : Nat} (ha : a < N) (k10 : Nat → Int32 → hp_H → Option (Int32 × hp_H)) : ∀ (f k : Nat) (Z : ES) (W : WS), RepD Z W S N ga gd → WokP S N W → e < W.1 → W.2.1 e = a → k ≤ ndc S a → ndc S a - k < f →
    (∀ r q, rkS S N (ndc S a - k) W e k = .inl (r, q) → ∃ Z', f_LL_fillDraft_L40 k10 f x (nI e) (some (ga a)) (nI k) (cb g x l p (nI N) u c A s d (va_up E d Z)) = some (r, (cb g x l p (nI N) (nI (8 * a + q)) c A s d (va_up E d Z')))) ∧
    (∀ W', rkS S N (ndc S a - k) W e k = .inr W' → ∃ Z', f_LL_fillDraft_L40 k10 f x (nI e) (some (ga a)) (nI k) (cb g x l p (nI N) u c A s d (va_up E d Z)) = k10 x (nI (e + 1)) (cb g x l p (nI N) u c A s d (va_up E d Z')) ∧ RepD Z' W' S N ga gd ∧ WokP S N W' ∧ W.1 ≤ W'.1) := by
  have hN := ht.1.1
  obtain ⟨-, -, k3, k4, k5⟩ := ht.1.2.2 a ha
  obtain ⟨v, ch, df, q1, -, -, q4, q5⟩ := (ht.2.2.1 a ha).2
  have elo := q1.1
  intro f
  induction f with
  | zero => intro k Z W _ _ _ _ _ hf; omega
  | succ f ih =>
    intro k Z W hR hW he hea hk hf
    have e5 : ∀ (u : Int32) (E : Nat → ES), hp_fI (cb g x l p (nI N) u c A s d E) (some (ga a)) 3 5 = some (nI (ndc S a)) := fun u E => (hp_fI_of (by rw [cb_out (by omega)]; exact q1.2.2) rfl).trans (by rw [k3])
    have e4 : ∀ (u : Int32) (E : Nat → ES), hp_fR (cb g x l p (nI N) u c A s d E) (some (ga a)) 3 4 = some (some (ga a + 1)) := fun u E => hp_fR_ref (by rw [cb_out (by omega)]; exact q1.2.2) rfl
    have e0 : ∀ (u : Int32) (E : Nat → ES), hp_fI (cb g x l p (nI N) u c A s d E) (some (ga a)) 3 0 = some (nI a) := fun u E => hp_fI_of (by rw [cb_out (by omega)]; exact q1.2.2) rfl
    simp only [f_LL_fillDraft_L40, e5, e4, Option.bind_some]
    by_cases hlt : k < ndc S a
    · have hD : DepOk S N (a * 6 + k) := ⟨a, k, ha, hlt, rfl⟩
      obtain ⟨Z1, f1, f2⟩ := cl_follow (l := l) (p := p) (u := u) (c := c) (s := s) (d := d) (E := E) ht hd hW hR he hD
      obtain ⟨s1, s2, s3, s4⟩ := ndS_spec ht.1 hW he (k5 k hlt)
      rw [if_neg (nI_ge hlt (by omega)), hp_aR_at (f := df) (n := 6) (by rw [cb_out (by omega)]; exact q4) (by omega) (by decide), q5 k hlt]
      simp only [Option.bind_some, cb_o0, f1]
      rw [show ndc S a - k = (ndc S a - (k + 1)) + 1 by omega, rkS, hea]
      by_cases c1 : (ndS S N W e (a * 6 + k)).1 < 0
      · rw [if_pos c1, if_neg (fun z => by rw [z] at c1; exact absurd c1 (by decide))]
        refine ⟨fun r q hh => ?_, (fun W' hh => by cases hh)⟩
        cases hh
        simp only [e0, Option.bind_some]
        refine ⟨Z1, ?_⟩
        rw [cb_w5, Option.bind_some, show (8 : Int32) * nI a + nI k = nI (8 * a + k) by
          rw [← nI_add]; congr 1; exact (Int32.ofNat_mul 8 a).symm]
      · have hz : (ndS S N W e (a * 6 + k)).1 = 0 := by
          rcases s4 with w | w | w
          · exact w
          · rw [w] at c1; exact absurd (show (-4 : Int32) < 0 by decide) c1
          · rw [w] at c1; exact absurd (show (-5 : Int32) < 0 by decide) c1
        rw [if_neg c1, if_pos hz, nI_1]
        obtain ⟨g1, g2⟩ := ih (k + 1) Z1 (ndS S N W e (a * 6 + k)).2 f2 s1 (Nat.lt_of_lt_of_le he s2) ((s3 e he).trans hea) (by omega) (by omega)
        refine ⟨g1, fun W' hh => ?_⟩
        obtain ⟨Z', z1, z2, z3, z4⟩ := g2 W' hh
        exact ⟨Z', z1, z2, z3, Nat.le_trans s2 z4⟩
    · have : k = ndc S a := by omega
      subst this
      rw [if_pos (nI_le (Nat.le_refl _) (by omega)), Nat.sub_self, nI_1]
      refine ⟨(fun r q hh => by cases hh), fun W' hh => ?_⟩
      cases hh
      exact ⟨Z, rfl, hR, hW, Nat.le_refl _⟩
theorem cl_fill_10 (ht : TbC (x + 35) g A S ga gd N) (hd : d ≤ 1) : ∀ (f r e : Nat) (Z : ES) (W : WS), RepD Z W S N ga gd → WokP S N W → e ≤ W.1 → 20 - e < f → 20 - e < r →
    (∀ o q, reS S N r W e = .inl (o, q) → ∃ Z', f_LL_fillDraft_L10 f x (nI e) (cb g x l p (nI N) u c A s d (va_up E d Z)) = some (o, (cb g x l p (nI N) (nI q) c A s d (va_up E d Z')))) ∧
    (∀ W', reS S N r W e = .inr W' → ∃ Z', f_LL_fillDraft_L10 f x (nI e) (cb g x l p (nI N) u c A s d (va_up E d Z)) = some (0, (cb g x l p (nI N) u c A s d (va_up E d Z'))) ∧ RepD Z' W' S N ga gd) := by
  have hN := ht.1.1
  intro f
  induction f with
  | zero => intro r e Z W _ _ _ hf; omega
  | succ f ih =>
    intro r e Z W hR hW he hf hr
    obtain ⟨r, rfl⟩ : ∃ r', r = r' + 1 := ⟨r - 1, by omega⟩
    have hWN := hW.2.2.2
    simp only [f_LL_fillDraft_L10, cb_r4, cb_q4 hd, va_up_self, Option.bind_some, hR.1]
    rw [reS]
    by_cases hlt : e < W.1
    · rw [if_neg (nI_ge hlt (by omega)), if_neg (show ¬ (20 : Int32) ≤ nI e from nI_ge (b := 20) (by omega) (by decide)), if_neg (show ¬ W.1 ≤ e by omega)]
      simp only [cb_q0 hd, Option.bind_some]
      have ha := (hW.2.1 e hlt).1
      rw [hp_aR_at (cb_e1 hd) (by omega) (by decide), va_up_self, (hR.2 e hlt).1, Option.bind_some]
      obtain ⟨g1, g2⟩ := cl_fill_40 (l := l) (p := p) (u := u) (c := c) (s := s) (d := d) (E := E) ht hd ha (f_LL_fillDraft_L10 f) FU 0 Z W hR hW hlt rfl (Nat.zero_le _) (FU_big (by have := (ht.1.2.2 _ ha).2.2.2.1; omega))
      rw [Nat.sub_zero] at g1 g2
      cases hk : rkS S N (ndc S (W.2.1 e)) W e 0 with
      | inl xq =>
        obtain ⟨o, q⟩ := xq
        refine ⟨fun o' q' hh => ?_, (fun W' hh => by cases hh)⟩
        cases hh
        exact g1 o q hk
      | inr W1 =>
        obtain ⟨Z1, z1, z2, z3, z4⟩ := g2 W1 hk
        obtain ⟨i1, i2⟩ := ih r (e + 1) Z1 W1 z2 z3 (by omega) (by omega) (by omega)
        have z1' : f_LL_fillDraft_L40 (f_LL_fillDraft_L10 f) FU x (nI e) (some (ga (W.2.1 e))) 0 (cb g x l p (nI N) u c A s d (va_up E d Z)) = f_LL_fillDraft_L10 f x (nI (e + 1)) (cb g x l p (nI N) u c A s d (va_up E d Z1)) := z1
        rw [z1']
        exact ⟨i1, i2⟩
    · have hee : e = W.1 := by omega
      subst hee
      rw [if_pos (nI_le (Nat.le_refl _) (by omega)), if_pos (Nat.le_refl _)]
      refine ⟨(fun o q hh => by cases hh), fun W' hh => ?_⟩
      cases hh
      exact ⟨Z, rfl, hR⟩
theorem w1S_ok {a : Nat} (ha : a < N) : WokP S N (w1S a) := by
  refine ⟨⟨fun e e' h1 h2 _ => ?_, fun e h1 h2 => ?_⟩, fun e h1 => ⟨ha, Nat.zero_le _⟩, fun e h1 h2 => ?_, ?_⟩
  · have h1' : e < 1 := h1
    have h2' : e' < 1 := h2
    omega
  · have h1' : e < 1 := h1
    omega
  · have h1' : e < 1 := h1
    omega
  · show 1 ≤ N; omega
theorem cl_fill (ht : TbC (x + 35) g A S ga gd N) (hd : d ≤ 1) {a : Nat} (ha : a < N) :
    (∀ o q, reS S N 21 (w1S a) 0 = .inl (o, q) → ∃ Z', f_LL_fillDraft (cb g x l p (nI N) u c A s d E) x (some (ga a)) = some (o, (cb g x l p (nI N) (nI q) c A s d (va_up E d Z')))) ∧
    (∀ W', reS S N 21 (w1S a) 0 = .inr W' → ∃ Z', f_LL_fillDraft (cb g x l p (nI N) u c A s d E) x (some (ga a)) = some (0, (cb g x l p (nI N) u c A s d (va_up E d Z'))) ∧ RepD Z' W' S N ga gd) := by
  obtain ⟨v, ch, df, q1, -⟩ := (ht.2.2.1 a ha).2
  have elo := q1.1
  have hR : RepD (1, va_up (E d).2.1 0 (some (ga a)), va_up (E d).2.2.1 0 0, va_up (E d).2.2.2.1 0 (-1), va_up (E d).2.2.2.2 0 none) (w1S a) S N ga gd := by
    refine ⟨rfl, fun e he => ?_⟩
    have he' : e < 1 := he
    have : e = 0 := by omega
    subst this
    exact ⟨(by show va_up (E d).2.1 0 (some (ga a)) 0 = _; rw [va_up_self]; rfl), (by show va_up (E d).2.2.1 0 0 0 = _; rw [va_up_self]; rfl), fun z => absurd z (Nat.lt_irrefl _)⟩
  have hst : f_LL_fillDraft (cb g x l p (nI N) u c A s d E) x (some (ga a)) = f_LL_fillDraft_L10 FU x (nI 0) (cb g x l p (nI N) u c A s d (va_up E d (1, va_up (E d).2.1 0 (some (ga a)), va_up (E d).2.2.1 0 0, va_up (E d).2.2.2.1 0 (-1), va_up (E d).2.2.2.2 0 none))) := by
    unfold f_LL_fillDraft
    simp only [cb_r4, cb_o2 hd, Option.bind_some, cl_elBegin hd q1.2.2 (show x + 14 ≤ ga a by omega)]
    rfl
  rw [hst]
  exact cl_fill_10 ht hd FU 21 0 _ _ hR (w1S_ok ha) (Nat.zero_le _) (FU_big (by omega)) (by omega)
end RSV2
