/-! ===== resolve on both sides ===== -/
section CALL9
variable {x : Nat} {h : hp_H}
theorem ok_resolve (hI : Inv x h) : CallOk x f_LL_resolve f_MD_resolve h := by
  obtain ⟨g, c, A, s, d, E, S, ga, gd, N, R, len, rfl, geo, hm, hl, ht, hr⟩ := hI
  obtain ⟨hlen, h0, hc⟩ := hl
  have hN := ht.1.1
  have hd := geo.2.2.1
  have hs := geo.2.1
  have hcc : ∀ j, j < len → S.2 1 j = c j := fun j hj => (hc j hj).1.symm
  obtain ⟨nm, b1, e1, p1, v1, w1⟩ := cl_nc (g := g) (x := x) (n := nI N) (u := S.1 17) (c := c) (A := A) (s := s) (d := d) (E := E) hlen
  obtain ⟨g1, o, b2, e2, T1, T2, T3, T4⟩ := cl_takeRange (g := g) (x := x) (n := nI N) (u := S.1 17) (c := c) (A := A) (s := s) (d := d) (E := E) (lo := x + 35) (a := b1) (by omega) geo.1 hlen p1
  have e4 := cl_finish (g := g1) (x := x) (n := nI N) (u := S.1 17) (c := c) (A := A) (s := s) (d := d) (E := E) hlen T2
  have hx : f_LL_resolve (cb g x (nI len) 0 (nI N) (S.1 17) c A s d E) x = (if lg_cmp nm 0 = 0 then some (-3, cb g1 x 0 0 (nI N) (S.1 17) c A s d E) else if o = none then some (-3, cb g1 x 0 0 (nI N) (S.1 17) c A s d E) else if zi (b2 = len) = 0 then some (-3, cb g1 x 0 0 (nI N) (S.1 17) c A s d E) else
        (f_LL_pickFor (cb g1 x 0 0 (nI N) (-1) c A s d E) x nm o).bind fun q24 =>
        if q24.1 = none then (
          some ((-4 : Int32), q24.2)) else (
          (hp_o q24.2 (some x) 0).bind fun _ =>
          (f_LL_fillDraft q24.2 x q24.1).bind fun q29 =>
          if q29.1 = 0 then (
            (hp_fR q29.2 (some x) 0 3).bind fun x34 =>
            (hp_fR q29.2 (some x) 0 4).bind fun x36 =>
            (hp_s q29.2 (some x) 0 3 (va_rf x36)).bind fun h38 =>
            (hp_s h38 (some x) 0 4 (va_rf x34)).bind fun h40 =>
            (hp_fR h40 (some x) 0 3).bind fun x42 =>
            (hp_fI h40 x42 2 4).bind fun x44 =>
            some (x44, h40)) else (
            some (q29.1, q29.2)))) := by
    unfold f_LL_resolve
    simp only [cb_r0, cb_o1, cb_o0, Option.bind_some, e1, e2, e4, cb_w5]
  have md := fun h => md_resolve h (x + 14) hlen h0 ht.1
  rw [LineR_congr hcc] at md
  by_cases hL : LineR c len
  · obtain ⟨n0, n1, n2⟩ := w1 ⟨hL.1, hL.2.1⟩
    obtain ⟨r, r1, r2⟩ := T4 (by rw [n1]; exact hL.2.2)
    have RR := (T3 r r1 r2).2
    rw [n1] at RR
    have ht1 := ht.ext (T1.mono (lo := x + 35))
    have ep : f_LL_pickFor (cb g1 x 0 0 (nI N) (-1) c A s d E) x (nmv c (fx c 58 0 len) 0 0) (some r) = some ((pkF (okC S c (fx c 58 0 len) len) (abP S) N 0 none).map ga, cb g1 x 0 0 (nI N) (-1) c A s d E) := cl_pickS ht1 RR hL.1
    have efx : fx (S.2 1) 58 0 len = fx c 58 0 len := fx_congr (fun k _ k2 => hcc k (by omega))
    have hpk : pkF (okC S (S.2 1) (fx (S.2 1) 58 0 len) len) (abP S) N 0 none = pkF (okC S c (fx c 58 0 len) len) (abP S) N 0 none := by
      rw [efx]
      obtain ⟨f1, f2, -, -⟩ := fx_spec c 58 len 0
      refine pkF_congr (N := N) (fun i hi => ?_) (fun _ _ _ _ => Iff.rfl) N 0 none (by omega) (fun y z => by cases z)
      unfold okC
      have ea : NmEq S i (S.2 1) (fx c 58 0 len) ↔ NmEq S i c (fx c 58 0 len) := by
        unfold NmEq
        exact ⟨fun z => ⟨z.1, fun k hk => (z.2 k hk).trans (hcc k (by omega))⟩, fun z => ⟨z.1, fun k hk => (z.2 k hk).trans (hcc k (by omega)).symm⟩⟩
      rw [ea, HoldsP_congr (c := S.2 1) (d := c) (v := avr S i (tc S i)) (w := avr S i (tc S i)) (fun k _ k2 => hcc k k2) (fun _ _ => rfl) ((RgP_congr (fun k _ k2 => hcc k k2)).mpr hL.2.2)]
    rw [hpk] at md
    rw [if_neg (fun z => n0 ((lg_cmp_eq _ _).mp z)), r1, if_neg (by simp), if_neg (fun z => zi_eq0.mp z r2), n2, ep, Option.bind_some] at hx
    cases hp : pkF (okC S c (fx c 58 0 len) len) (abP S) N 0 none with
    | none =>
      rw [hp] at hx
      have hx2 : f_LL_resolve (cb g x (nI len) 0 (nI N) (S.1 17) c A s d E) x = some (-4, cb g1 x 0 0 (nI N) (-1) c A s d E) := by
        rw [hx]; rfl
      obtain ⟨S', q1, q2⟩ := (md (cb g1 x 0 0 (nI N) (-1) c A s d E)).2.1 hL hp
      exact ok_tk hx2 T1 hm ⟨S', q1, q2⟩ geo rfl ht hr
    | some a =>
      rw [hp] at hx
      have haN : a < N := by
        have := (pkF_spec (okC S c (fx c 58 0 len) len) (abP S) N 0 none).1 a hp
        rcases this with w | w
        · cases w
        · omega
      rw [Option.map_some, if_neg (by simp)] at hx
      simp only [cb_o0, Option.bind_some] at hx
      obtain ⟨F1, F2⟩ := cl_fill (l := 0) (p := 0) (u := -1) (c := c) (s := s) (d := d) (E := E) ht1 hd haN
      cases hre : reS S N 21 (w1S a) 0 with
      | inl oq =>
        obtain ⟨o', q'⟩ := oq
        obtain ⟨Z', z1⟩ := F1 o' q' hre
        have hmd := ((md (cb g1 x 0 0 (nI N) (nI q') c A s d (va_up E d Z'))).2.2 a hL hp).1 o' q' hre
        obtain ⟨hcode, S', q1, q2⟩ := hmd
        have hx2 : f_LL_resolve (cb g x (nI len) 0 (nI N) (S.1 17) c A s d E) x = some (o', cb g1 x 0 0 (nI N) (nI q') c A s d (va_up E d Z')) := by
          rw [hx, z1, Option.bind_some, if_neg (show ¬ o' = 0 by rcases hcode with w | w <;> rw [w] <;> decide)]
        exact ok_tk hx2 T1 hm ⟨S', q1, q2⟩ geo (va_up_ne _ _ geo.2.2.2) ht hr
      | inr W' =>
        obtain ⟨Z', z1, z2⟩ := F2 W' hre
        have hmd := ((md (cb g1 x 0 0 (nI N) (-1) c A d s (va_up E d Z'))).2.2 a hL hp).2 W' hre
        obtain ⟨hWok, hW1, S', q1, q2, q3⟩ := hmd
        have hx2 : f_LL_resolve (cb g x (nI len) 0 (nI N) (S.1 17) c A s d E) x = some (nI W'.1, cb g1 x 0 0 (nI N) (-1) c A d s (va_up E d Z')) := by
          rw [hx, z1, Option.bind_some, if_pos rfl]
          simp only [cb_r3, cb_r4, Option.bind_some, cb_w3, cb_w4, cb_q4 hd, va_up_self, z2.1]
        have hWN := hWok.2.2.2
        refine ok_mk (len := 0) (S := S) (S' := S') (R := W'.1) (ga := ga) (gd := gd) hx2 (hm.ext (by omega) T1) q1 ⟨Nat.le_trans geo.1 T1.1, hd, hs, fun z => geo.2.2.2 z.symm⟩ ?_ (LnC.z ?_) ?_ ?_
        · rw [q3.1.2.2]; simp [va_up]
        · rw [q3.1.1]; simp [va_up, tkS]
        · exact ht1.same (by rw [q3.1.2.1]; simp [va_up, tkS]) (fun k k1 k2 => q3.2 k (by omega) (by omega) (by omega) (by omega) (by omega) (by omega) (by omega))
        · rw [va_up_self]
          refine ⟨⟨by omega, q2.1, fun e he => ⟨W'.2.1 e, (hWok.2.1 e he).1, (q2.2.1 e he).1⟩⟩, z2.1, fun e he => ?_⟩
          obtain ⟨y1, y2, y3⟩ := z2.2 e he
          have haE := (hWok.2.1 e he).1
          refine ⟨?_, ?_, fun e0 => ?_⟩
          · rw [y1, (q2.2.1 e he).1, nI_clamp (by omega)]
          · rw [y2, (q2.2.1 e he).2]
          · rw [(y3 e0).1, q2.2.2 e he e0]
  · have hx2 : f_LL_resolve (cb g x (nI len) 0 (nI N) (S.1 17) c A s d E) x = some (-3, cb g1 x 0 0 (nI N) (S.1 17) c A s d E) := by
      rw [hx]
      by_cases c1 : nm = 0
      · rw [if_pos ((lg_cmp_eq _ _).mpr c1)]
      · rw [if_neg (fun z => c1 ((lg_cmp_eq _ _).mp z))]
        by_cases c2 : o = none
        · rw [if_pos c2]
        · rw [if_neg c2]
          by_cases c4 : b2 = len
          · exfalso
            obtain ⟨r, hr'⟩ := Option.ne_none_iff_exists'.mp c2
            have k := v1 c1
            have k3 := (T3 r hr' c4).1
            rw [(w1 k).2.1] at k3
            exact hL ⟨k.1, k.2, k3⟩
          · rw [if_pos (zi_eq0.mpr c4)]
    obtain ⟨S', q1, q2⟩ := (md (cb g1 x 0 0 (nI N) (S.1 17) c A s d E)).1 hL
    exact ok_tk hx2 T1 hm ⟨S', q1, q2.tk⟩ geo rfl ht hr
end CALL9
