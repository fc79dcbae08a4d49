/-! ===== exclude on both sides ===== -/
/-- a dependency's array and number, with one exclusion more -/
def aExc (g : hp_H) (a : Nat) (fs : List Value) (xf : Nat → Int64) : hp_H := hp_up (hp_up g (a + 1) (.inl (1, 3, .inr (.inl xf)))) a (.inr (4, fs))
section EXC
variable {g : hp_H} {x : Nat} {l p n u : Int32} {c : Nat → Int32} {A : Nat → Option Nat} {s d : Nat} {E : Nat → ES} {lo : Nat}
theorem cl_addExc {a k r : Nat} {nm y : Int64} {op : Int32} {xf : Nat → Int64} (hx : x + 14 ≤ a) (hk : k < 3) (hc : g.1 a = some (.inr (4, [.long nm, .ref r, .int op, .ref (a + 1), .int (nI k)]))) (ha : g.1 (a + 1) = some (.inl (1, 3, .inr (.inl xf)))) : f_DP_addExclusion (cb g x l p n u c A s d E) a y = some (cb (aExc g a [.long nm, .ref r, .int op, .ref (a + 1), .int (nI (k + 1))] (va_up xf k y)) x l p n u c A s d E) := by
  have ec : (cb g x l p n u c A s d E).1 a = some (.inr (4, [.long nm, .ref r, .int op, .ref (a + 1), .int (nI k)])) := by rw [cb_out hx]; exact hc
  have e5 : hp_fI (cb g x l p n u c A s d E) (some a) 4 4 = some (nI k) := hp_fI_of ec rfl
  have e4 : hp_fR (cb g x l p n u c A s d E) (some a) 4 3 = some (some (a + 1)) := hp_fR_ref ec rfl
  have es : hp_sL (cb g x l p n u c A s d E) (some (a + 1)) 1 (nI k) y = some (cb (hp_up g (a + 1) (.inl (1, 3, .inr (.inl (va_up xf k y))))) x l p n u c A s d E) := by
    rw [hp_sL_at (f := xf) (n := 3) (by rw [cb_out (by omega)]; exact ha) hk (by decide), cb_hup (by omega)]
  have ec2 : (hp_up g (a + 1) (.inl (1, 3, .inr (.inl (va_up xf k y))))).1 a = some (.inr (4, [.long nm, .ref r, .int op, .ref (a + 1), .int (nI k)])) := by rw [hp_up_1, if_neg (by omega)]; exact hc
  have e5' : hp_fI (cb (hp_up g (a + 1) (.inl (1, 3, .inr (.inl (va_up xf k y))))) x l p n u c A s d E) (some a) 4 4 = some (nI k) := hp_fI_of (by rw [cb_out hx]; exact ec2) rfl
  unfold f_DP_addExclusion
  simp only [e5, e4, Option.bind_some, es, e5', nI_1]
  rw [if_neg (show ¬ (3 : Int32) ≤ nI k from nI_ge (b := 3) hk (by decide)), cb_so hx ec2 (by simp), Option.bind_some]
  rfl
end EXC
/-- the tables with one exclusion more -/
theorem TbC.exc {lo : Nat} {g : hp_H} {A : Nat → Option Nat} {S S' : MS} {ga gd : Nat → Nat} {N len i k e r : Nat} {c : Nat → Int32} {xf : Nat → Int64} (h : TbC lo g A S ga gd N) (hi : i < N) (hk : k < ndc S i) (he : e < 3) (he14 : S.2 14 (i * 6 + k) = nI e) (hP : ExcT S S' (i * 6 + k) e len) (hc : ∀ j, j < len → S.2 1 j = c j) (hL : NmP c 0 len)
    (ha : g.1 (gd (i * 6 + k)) = some (.inr (4, [.long (nmv (dtx S (i * 6 + k)) (dq S (i * 6 + k)) 0 0), .ref r, .int (S.2 11 (i * 6 + k)), .ref (gd (i * 6 + k) + 1), .int (S.2 14 (i * 6 + k))]))) (hr : Rat lo g r (zi (VrP (dtx S (i * 6 + k)) (dq S (i * 6 + k) + 1) (dl S (i * 6 + k)))) (HdP (dtx S (i * 6 + k)) (dq S (i * 6 + k) + 1) (dl S (i * 6 + k)))) (hxa : g.1 (gd (i * 6 + k) + 1) = some (.inl (1, 3, .inr (.inl xf)))) (hxf : ∀ q, q < e → xf q = nmv (xtx S ((i * 6 + k) * 3 + q)) (xl S ((i * 6 + k) * 3 + q)) 0 0) :
    TbC lo (aExc g (gd (i * 6 + k)) [.long (nmv (dtx S (i * 6 + k)) (dq S (i * 6 + k)) 0 0), .ref r, .int (S.2 11 (i * 6 + k)), .ref (gd (i * 6 + k) + 1), .int (nI (e + 1))] (va_up xf e (nmv c len 0 0))) A S' ga gd N := by
  obtain ⟨⟨t1, t2, t3⟩, z, h1, h2, h3⟩ := h
  obtain ⟨⟨p0, p4, p17, p18⟩, ps, p14, p15, p16, p16'⟩ := hP
  have e5 := ps 5 (by decide) (by decide) (by decide) (by decide)
  have e6 := ps 6 (by decide) (by decide) (by decide) (by decide)
  have e7 := ps 7 (by decide) (by decide) (by decide) (by decide)
  have e8 := ps 8 (by decide) (by decide) (by decide) (by decide)
  have e9 := ps 9 (by decide) (by decide) (by decide) (by decide)
  have e10 := ps 10 (by decide) (by decide) (by decide) (by decide)
  have e11 := ps 11 (by decide) (by decide) (by decide) (by decide)
  have e12 := ps 12 (by decide) (by decide) (by decide) (by decide)
  have e13 := ps 13 (by decide) (by decide) (by decide) (by decide)
  have l8 := hL.2.1
  have hk6 : k < 6 := Nat.lt_of_lt_of_le hk (t3 i hi).2.2.2.1
  have hA : ∀ j, ArtE S S' j := fun j => ⟨by rw [e5], by rw [e7], fun _ _ => by rw [e6]⟩
  have hD : ∀ D, DepE S S' D := fun D => ⟨by rw [e11], by rw [e12], fun _ _ => by rw [e13]⟩
  -- another exclusion's text
  have hX1 : ∀ E, E ≠ (i * 6 + k) * 3 + e → S'.2 15 E = S.2 15 E ∧ ∀ j, j < 8 → S'.2 16 (E * 8 + j) = S.2 16 (E * 8 + j) := fun E hE => ⟨by rw [p15, va_up_ne _ _ hE], fun j hj => p16 _ (by omega)⟩
  have hX : ∀ D, D ≠ i * 6 + k → ExcQ S S' D := fun D hd => ⟨by rw [p14, va_up_ne _ _ hd], fun q hq => hX1 _ (by omega)⟩
  have hn : ∀ j, ndc S' j = ndc S j := fun j => by unfold ndc; rw [e10]
  have hne : ∀ j q, j < N → q < ndc S j → (j ≠ i ∨ q ≠ k) → j * 6 + q ≠ i * 6 + k := by
    intro j q hj hq hh ee
    have q6 : q < 6 := Nat.lt_of_lt_of_le hq (t3 j hj).2.2.2.1
    omega
  -- the new exclusion
  have exl : xl S' ((i * 6 + k) * 3 + e) = len := by unfold xl; rw [p15, va_up_self, nI_clamp (by omega)]
  have ext : ∀ j, j < len → xtx S' ((i * 6 + k) * 3 + e) j = c j := fun j hj => (p16' j hj).trans (hc j hj)
  have hdi := (t3 i hi).2.2.2.2 k hk
  have xq : ∀ q, q < e → xl S' ((i * 6 + k) * 3 + q) = xl S ((i * 6 + k) * 3 + q) ∧ nmv (xtx S' ((i * 6 + k) * 3 + q)) (xl S' ((i * 6 + k) * 3 + q)) 0 0 = nmv (xtx S ((i * 6 + k) * 3 + q)) (xl S ((i * 6 + k) * 3 + q)) 0 0 ∧ NmP (xtx S' ((i * 6 + k) * 3 + q)) 0 (xl S' ((i * 6 + k) * 3 + q)) ∧ S'.2 15 ((i * 6 + k) * 3 + q) = nI (xl S' ((i * 6 + k) * 3 + q)) := by
    intro q hq
    obtain ⟨x1, x2⟩ := hX1 ((i * 6 + k) * 3 + q) (by omega)
    obtain ⟨ne, n1, n2, n3⟩ := hdi.ne
    have hne' : ne = e := (nI_eq (by omega) (by omega)).mp (n2.symm.trans he14)
    obtain ⟨m1, m2⟩ := n3 q (by omega)
    have el : xl S' ((i * 6 + k) * 3 + q) = xl S ((i * 6 + k) * 3 + q) := by unfold xl; rw [x1]
    have m8 := m2.2.1
    refine ⟨el, ?_, ?_, ?_⟩
    · rw [el]; exact nmv_congr fun j hj => x2 j (by omega)
    · rw [el]; exact (NmP_congr (fun j _ j2 => (x2 j (by omega)).symm)).mp m2
    · rw [el, x1]; exact m1
  have e14' : S'.2 14 (i * 6 + k) = nI (e + 1) := by rw [p14, va_up_self]
  have hdv : DepV S' (i * 6 + k) := by
    have hd' := dtx_e (S := S) (S' := S') (D := i * 6 + k) hdi (hD _)
    obtain ⟨⟨d1, d2, d3, d4, d5⟩, -⟩ := hdi
    refine ⟨⟨d1, ?_, ?_, ?_, ?_⟩, e + 1, by omega, e14', fun q hq => ?_⟩
    · rw [dl_e (hD _), (hD _).2.1]; exact d2
    · rw [dl_e (hD _)]; exact d3
    · rw [dl_e (hD _)]; exact (LineR_congr hd').mpr d4
    · rw [(hD _).1]; exact d5
    · rcases Nat.lt_or_ge q e with w | w
      · exact ⟨(xq q w).2.2.2, (xq q w).2.2.1⟩
      · have : q = e := by omega
        subst this
        rw [exl]
        exact ⟨by rw [p15, va_up_self], (NmP_congr (fun j _ j2 => (ext j j2).symm)).mp hL⟩
  -- the heap
  have hlo := (h2 i k hi hk).1
  have hup := (h2 i k hi hk).2.1
  have kp : Kp2 lo g (aExc g (gd (i * 6 + k)) [.long (nmv (dtx S (i * 6 + k)) (dq S (i * 6 + k)) 0 0), .ref r, .int (S.2 11 (i * 6 + k)), .ref (gd (i * 6 + k) + 1), .int (nI (e + 1))] (va_up xf e (nmv c len 0 0))) (gd (i * 6 + k)) 4 1 := ⟨Nat.le_refl _, ⟨_, ha⟩, ⟨_, hxa⟩, fun q _ _ q3 q4 => by unfold aExc; rw [hp_up_1, if_neg q3, hp_up_1, if_neg q4]⟩
  refine ⟨⟨t1, p4.trans t2, fun j hj => ?_⟩, ⟨fun j j1 j2 => ?_, fun j q j1 k1 hq => ?_⟩, fun j hj => ⟨(h1 j hj).1, ?_⟩, fun j q hj hq => ?_, h3.1, fun j q j' q' hj hq hj' hq' => ?_⟩
  · obtain ⟨b1, b2, b3, b4, b5⟩ := t3 j hj
    refine ⟨b1.e (hA j), by rw [e8]; exact b2, by rw [hn, e10]; exact b3, by rw [hn]; exact b4, fun q hq => ?_⟩
    rw [hn] at hq
    by_cases w : j = i ∧ q = k
    · obtain ⟨rfl, rfl⟩ := w; exact hdv
    · exact (b5 q hq).e (hD _) (hX _ (hne j q hj hq (by omega)))
  · rw [e8, e9, e10]; exact z.1 j j1 j2
  · rw [hn] at hq
    rw [p14, va_up_ne _ _ (by
      intro ee
      have : j = i := by omega
      subst this
      have := hq hi
      omega)]
    exact z.2 j q j1 k1 hq
  · exact ((h1 j hj).2.kp kp (by decide) (by decide) (Or.inl (by decide))).e (t3 j hj).1 (hA j) (by rw [e8]) (by rw [e9]) (by rw [e10]) (fun _ _ => rfl)
  · rw [hn] at hq
    by_cases w : j = i ∧ q = k
    · obtain ⟨rfl, rfl⟩ := w
      have hq1 : dq S (j * 6 + q) + 1 ≤ dl S (j * 6 + q) := by
        obtain ⟨f1, f2, -, -⟩ := fx_spec (dtx S (j * 6 + q)) 58 (dl S (j * 6 + q)) 0
        have := hdi.txt.2.2.2.1
        unfold dq
        omega
      have hd' := dtx_e (S := S) (S' := S') (D := j * 6 + q) hdi (hD _)
      refine ⟨hlo, hup, r, va_up xf e (nmv c len 0 0), ?_, ?_, ?_, fun t ht => ?_⟩
      · unfold aExc
        rw [hp_up_1, if_pos rfl, dq_e hdi (hD _), nmv_congr (c := dtx S' (j * 6 + q)) (d := dtx S (j * 6 + q)) (fun t ht => hd' t (by omega)), e11, e14']
      · rw [dq_e hdi (hD _), dl_e (hD _), zi_congr (VrP_congr (fun t _ t2 => hd' t t2))]
        exact (hr.kp kp (by decide) (by decide)).congr fun P => (HdP_congr (fun t _ t2 => (hd' t t2).symm) hdi.txt.2.2.2.2 P).symm
      · unfold aExc
        rw [hp_up_1, if_neg (by omega), hp_up_1, if_pos rfl]
      · rw [e14', nI_clamp (by omega)] at ht
        rcases Nat.lt_or_ge t e with w | w
        · rw [va_up_ne _ _ (by omega), (xq t w).2.1]; exact hxf t w
        · have : t = e := by omega
          subst this
          rw [va_up_self, exl]
          exact nmv_congr fun y hy => (ext y hy).symm
    · have hw : j ≠ i ∨ q ≠ k := by omega
      exact ((h2 j q hj hq).kp kp (by decide) (by decide) (Or.inr (fun ee => w (h3.2 j q i k hj hq hi hk ee)))).e ((t3 j hj).2.2.2.2 q hq) (hD _) (hX _ (hne j q hj hq hw))
  · rw [hn] at hq hq'
    exact h3.2 j q j' q' hj hq hj' hq'
section CALL8
variable {x : Nat} {h : hp_H}
theorem ok_exclude (hI : Inv x h) (y : Int32) : CallOk x (fun h x => f_LL_exclude h x y) (fun h x => f_MD_exclude h x y) h := by
  obtain ⟨g, c, A, s, d, E, S, ga, gd, N, R, len, rfl, geo, hm, hl, ht, hr⟩ := hI
  obtain ⟨hlen, h0, hc⟩ := hl
  have hN := ht.1.1
  have hcc : ∀ j, j < len → S.2 1 j = c j := fun j hj => (hc j hj).1.symm
  obtain ⟨n1, n2⟩ := cl_nameAll (g := g) (x := x) (n := nI N) (u := S.1 17) (c := c) (A := A) (s := s) (d := d) (E := E) hlen
  have any : ∃ nm b, b ≤ len ∧ f_LN_takeName (cb g x (nI len) 0 (nI N) (S.1 17) c A s d E) (x + 1) = some (nm, cb g x (nI len) (nI b) (nI N) (S.1 17) c A s d E) ∧ ((nm ≠ 0 ∧ b = len) ↔ NmP c 0 len) ∧ (NmP c 0 len → nm = nmv c len 0 0) := by
    by_cases hK : NmP c 0 len
    · exact ⟨_, len, Nat.le_refl _, n1 hK, ⟨fun _ => hK, fun _ => ⟨nm_ne0 hK, rfl⟩⟩, fun _ => rfl⟩
    · obtain ⟨v, b, k1, k2, k3⟩ := n2 hK
      exact ⟨v, b, k1, k2, ⟨fun z => absurd k3 (by rintro (w | w); exact z.1 w; exact w z.2), fun z => absurd z hK⟩, fun z => absurd z hK⟩
  obtain ⟨nm, b, p1, e1, hiff, hnm⟩ := any
  have e4 := cl_finish (g := g) (x := x) (n := nI N) (u := S.1 17) (c := c) (A := A) (s := s) (d := d) (E := E) hlen p1
  obtain ⟨a1, a2⟩ := cl_artAt (x := x) (g := g) (l := 0) (p := 0) (u := S.1 17) (c := c) (s := s) (d := d) (E := E) hN (fun i hi => (ht.2.2.1 i hi).1) y
  have md := fun h => md_exclude h (x + 14) hlen h0 ht.1.2.1 hN y
  rw [NmP_congr (fun k _ k2 => hcc k k2)] at md
  by_cases hex : ∃ i, i < N ∧ y = nI i
  · obtain ⟨i, i1, i2⟩ := hex
    obtain ⟨v, ch, df, q1, q2, q3, q4, q5⟩ := (ht.2.2.1 i i1).2
    have hlo := q1.1
    have ec : (cb g x 0 0 (nI N) (S.1 17) c A s d E).1 (ga i) = some (.inr (3, [.int (nI i), .long (nmv (fun j => S.2 6 (i * 21 + j)) (tc S i) 0 0), .ref v, .ref ch, .ref (ga i + 1), .int (S.2 10 i), .int (S.2 9 i), .int (S.2 8 i)])) := by rw [cb_out (by omega)]; exact q1.2.2
    have eo : hp_o (cb g x 0 0 (nI N) (S.1 17) c A s d E) (some (ga i)) 3 = some (ga i) := hp_o_of ec
    have e5 : hp_fI (cb g x 0 0 (nI N) (S.1 17) c A s d E) (some (ga i)) 3 5 = some (S.2 10 i) := hp_fI_of ec rfl
    have e44 : hp_fR (cb g x 0 0 (nI N) (S.1 17) c A s d E) (some (ga i)) 3 4 = some (some (ga i + 1)) := hp_fR_ref ec rfl
    obtain ⟨-, -, k3, k4, k5⟩ := ht.1.2.2 i i1
    rcases Nat.eq_zero_or_pos (ndc S i) with z | z
    · have hx2 : f_LL_exclude (cb g x (nI len) 0 (nI N) (S.1 17) c A s d E) x y = some (-1, cb g x 0 0 (nI N) (S.1 17) c A s d E) := by
        unfold f_LL_exclude f_AR_lastDependency
        simp only [cb_r0, cb_o1, cb_o0, Option.bind_some, e1, e4, a2 i i1 i2, eo, e5]
        rw [if_neg (by simp), k3, z, if_pos (show nI 0 = 0 from rfl), Option.bind_some]
        unfold f_LL_exclude_L38
        rw [if_pos rfl]
      obtain ⟨S', m1, m2⟩ := (md (cb g x 0 0 (nI N) (S.1 17) c A s d E)).2.1 i i1 i2 (by rw [k3, z])
      exact ok_tk hx2 Ext.rfl' hm ⟨S', m1, m2.tk⟩ geo rfl ht hr
    · obtain ⟨k, hk⟩ : ∃ k, ndc S i = k + 1 := ⟨ndc S i - 1, by omega⟩
      have hkd : k < ndc S i := by omega
      rw [hk] at k3 k4
      have elast : hp_aR (cb g x 0 0 (nI N) (S.1 17) c A s d E) (some (ga i + 1)) 5 (nI k) = some (some (gd (i * 6 + k))) := by
        rw [hp_aR_at (f := df) (n := 6) (by rw [cb_out (by omega)]; exact q4) (by omega) (by decide), q5 k hkd]
      obtain ⟨d1, d2, r, xf, d3, d4, d5, d6⟩ := ht.2.2.2.1 i k i1 hkd
      have ed : (cb g x 0 0 (nI N) (S.1 17) c A s d E).1 (gd (i * 6 + k)) = some (.inr (4, [.long (nmv (dtx S (i * 6 + k)) (dq S (i * 6 + k)) 0 0), .ref r, .int (S.2 11 (i * 6 + k)), .ref (gd (i * 6 + k) + 1), .int (S.2 14 (i * 6 + k))])) := by rw [cb_out (by omega)]; exact d3
      have ed4 : hp_fI (cb g x 0 0 (nI N) (S.1 17) c A s d E) (some (gd (i * 6 + k))) 4 4 = some (S.2 14 (i * 6 + k)) := hp_fI_of ed rfl
      have edo : hp_o (cb g x 0 0 (nI N) (S.1 17) c A s d E) (some (gd (i * 6 + k))) 4 = some (gd (i * 6 + k)) := hp_o_of ed
      have hx : f_LL_exclude (cb g x (nI len) 0 (nI N) (S.1 17) c A s d E) x y = (if lg_cmp nm 0 = 0 then some (-3, cb g x 0 0 (nI N) (S.1 17) c A s d E) else if zi (b = len) = 0 then some (-3, cb g x 0 0 (nI N) (S.1 17) c A s d E) else if S.2 14 (i * 6 + k) < 3 then (f_DP_addExclusion (cb g x 0 0 (nI N) (S.1 17) c A s d E) (gd (i * 6 + k)) nm).bind fun q28 => some (0, q28) else some (-2, cb g x 0 0 (nI N) (S.1 17) c A s d E)) := by
        unfold f_LL_exclude f_AR_lastDependency
        simp only [cb_r0, cb_o1, cb_o0, Option.bind_some, e1, e4, a2 i i1 i2, eo, e5, e44]
        rw [if_neg (by simp), k3, if_neg (nI_ne0 (by omega) (by omega)), nI_pred, elast]
        simp only [Option.bind_some]
        unfold f_LL_exclude_L38
        simp only [ed4, edo, Option.bind_some]
        rw [if_neg (by simp)]
      by_cases hK : NmP c 0 len
      · obtain ⟨c1, c2⟩ := hiff.mpr hK
        rw [if_neg (fun z => c1 ((lg_cmp_eq _ _).mp z)), if_neg (fun z => zi_eq0.mp z c2)] at hx
        obtain ⟨ne, m1, m2, m3⟩ := (k5 k hkd).ne
        by_cases h3 : ne = 3
        · rw [m2, h3, if_neg (show ¬ nI 3 < 3 by decide)] at hx
          obtain ⟨S', m1, m2'⟩ := (md (cb g x 0 0 (nI N) (S.1 17) c A s d E)).2.2.2.1 i k i1 i2 (by omega) k3 hK (by rw [m2, h3])
          exact ok_tk hx Ext.rfl' hm ⟨S', m1, m2'.tk⟩ geo rfl ht hr
        · have hne3 : ne < 3 := by omega
          have oc := d3
          rw [m2] at oc
          rw [m2, if_pos (show nI ne < (3 : Int32) from nI_lt (b := 3) hne3 (by decide)), cl_addExc (by omega) hne3 oc d5, Option.bind_some, hnm hK] at hx
          obtain ⟨S', w1, w2⟩ := (md (cb (aExc g (gd (i * 6 + k)) [.long (nmv (dtx S (i * 6 + k)) (dq S (i * 6 + k)) 0 0), .ref r, .int (S.2 11 (i * 6 + k)), .ref (gd (i * 6 + k) + 1), .int (nI (ne + 1))] (va_up xf ne (nmv c len 0 0))) x 0 0 (nI N) (S.1 17) c A s d E)).2.2.2.2 i k ne i1 i2 (by omega) k3 hK hne3 m2
          have hmd : MdC (aExc g (gd (i * 6 + k)) [.long (nmv (dtx S (i * 6 + k)) (dq S (i * 6 + k)) 0 0), .ref r, .int (S.2 11 (i * 6 + k)), .ref (gd (i * 6 + k) + 1), .int (nI (ne + 1))] (va_up xf ne (nmv c len 0 0))) (x + 14) S := (hm.up (by omega)).up (by omega)
          refine ok_mk (len := 0) (S := S) (S' := S') (R := R) (ga := ga) (gd := gd) hx hmd w1 geo w2.1.2.2.1 (LnC.z w2.1.1) (ht.exc i1 hkd hne3 m2 w2 hcc hK d3 d4 d5 (fun q hq => d6 q (by rw [m2, nI_clamp (by omega)]; exact hq))) (hr.same w2.1.2.2.2 (fun e _ => ⟨by rw [w2.2.1 20 (by decide) (by decide) (by decide) (by decide)], by rw [w2.2.1 21 (by decide) (by decide) (by decide) (by decide)], by rw [w2.2.1 22 (by decide) (by decide) (by decide) (by decide)]⟩))
      · have hx2 : f_LL_exclude (cb g x (nI len) 0 (nI N) (S.1 17) c A s d E) x y = some (-3, cb g x 0 0 (nI N) (S.1 17) c A s d E) := by
          rw [hx]
          by_cases c1 : nm = 0
          · rw [if_pos ((lg_cmp_eq _ _).mpr c1)]
          · rw [if_neg (fun z => c1 ((lg_cmp_eq _ _).mp z))]
            by_cases c2 : b = len
            · exact absurd (hiff.mp ⟨c1, c2⟩) hK
            · rw [if_pos (zi_eq0.mpr c2)]
        obtain ⟨S', w1, w2⟩ := (md (cb g x 0 0 (nI N) (S.1 17) c A s d E)).2.2.1 i k i1 i2 (by omega) k3 hK
        exact ok_tk hx2 Ext.rfl' hm ⟨S', w1, w2.tk⟩ geo rfl ht hr
  · have hx2 : f_LL_exclude (cb g x (nI len) 0 (nI N) (S.1 17) c A s d E) x y = some (-1, cb g x 0 0 (nI N) (S.1 17) c A s d E) := by
      unfold f_LL_exclude
      simp only [cb_r0, cb_o1, cb_o0, Option.bind_some, e1, e4, a1 hex]
      rw [if_pos trivial]
      unfold f_LL_exclude_L38
      rw [if_pos rfl]
    obtain ⟨S', m1, m2⟩ := (md (cb g x 0 0 (nI N) (S.1 17) c A s d E)).1 hex
    exact ok_tk hx2 Ext.rfl' hm ⟨S', m1, m2.tk⟩ geo rfl ht hr
end CALL8
