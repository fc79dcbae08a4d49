section PUB2
variable {g : hp_H} {x : Nat} {l p n u : Int32} {c : Nat → Int32} {A : Nat → Option Nat} {s d : Nat} {E : Nat → ES} {lo : Nat}
theorem cl_nc {len : Nat} (hl : len ≤ 40) : ∃ nm b, f_LN_takeNameAndColon (cb g x (nI len) 0 n u c A s d E) (x + 1) = some (nm, (cb g x (nI len) (nI b) n u c A s d E)) ∧ b ≤ len ∧ (nm ≠ 0 → NmP c 0 (fx c 58 0 len) ∧ fx c 58 0 len ≠ len) ∧ ((NmP c 0 (fx c 58 0 len) ∧ fx c 58 0 len ≠ len) → nm ≠ 0 ∧ b = fx c 58 0 len + 1 ∧ nm = nmv c (fx c 58 0 len) 0 0) := by
  obtain ⟨n1, n2⟩ := cl_nameColon (g := g) (x := x) (n := n) (u := u) (c := c) (A := A) (s := s) (d := d) (E := E) hl
  by_cases hK : NmP c 0 (fx c 58 0 len) ∧ fx c 58 0 len ≠ len
  · obtain ⟨k1, k2⟩ := n1 hK
    exact ⟨_, _, k2, k1, fun _ => hK, fun _ => ⟨nm_ne0 hK.1, rfl, rfl⟩⟩
  · obtain ⟨b, k1, k2⟩ := n2 hK
    exact ⟨0, b, k2, k1, fun z => absurd rfl z, fun z => absurd z hK⟩
end PUB2
theorem RsC.pub {Z : ES} {S S' : MS} {ga : Nat → Nat} {N R a : Nat} (h : RsC Z S ga N R) (hN : N ≤ 20) (h18 : S'.1 18 = S.1 18) (hs : ∀ k, (k = 20 ∨ k = 21 ∨ k = 22) → S'.2 k = S.2 k) : RsC Z S' (va_up ga N a) (N + 1) R := by
  obtain ⟨⟨r1, r2, r3⟩, h2, h3⟩ := h
  have e20 := hs 20 (Or.inl rfl)
  have e21 := hs 21 (Or.inr (Or.inl rfl))
  have e22 := hs 22 (Or.inr (Or.inr rfl))
  refine ⟨⟨r1, h18.trans r2, fun e he => ?_⟩, h2, fun e he => ?_⟩
  · obtain ⟨b, b1, b2⟩ := r3 e he
    exact ⟨b, by omega, by rw [e20]; exact b2⟩
  · obtain ⟨b, b1, b2⟩ := r3 e he
    rw [e20, e21, e22]
    have := h3 e he
    rw [b2, nI_clamp (by omega)] at this ⊢
    rw [va_up_ne _ _ (by omega)]
    exact this
section CALL6
variable {x : Nat} {h : hp_H}
theorem ok_publish (hI : Inv x h) : CallOk x f_LL_publish f_MD_publish h := by
  obtain ⟨g, c, A, s, d, E, S, ga, gd, N, R, len, rfl, geo, hm, hl, ht, hr⟩ := hI
  obtain ⟨hlen, h0, hc⟩ := hl
  have hN := ht.1.1
  have hcc : ∀ j, j < len → S.2 1 j = c j := fun j hj => (hc j hj).1.symm
  obtain ⟨nm, b1, e1, p1, v1, w1⟩ := cl_nc (g := g) (x := x) (n := nI N) (u := S.1 17) (c := c) (A := A) (s := s) (d := d) (E := E) hlen
  obtain ⟨g1, o, b2, e2, x2, p2, p2', m2, v2, w2⟩ := cl_tv (g := g) (x := x) (n := nI N) (u := S.1 17) (c := c) (A := A) (s := s) (d := d) (E := E) (lo := x + 35) (a := b1) (by omega) geo.1 hlen p1
  obtain ⟨g2, ch, e3, x3, c3⟩ := cl_copy (g := g1) (x := x) (p := nI b2) (n := nI N) (u := S.1 17) (c := c) (A := A) (s := s) (d := d) (E := E) (lo := x + 35) (by omega) (Nat.le_trans geo.1 x2.1) hlen (fun j hj => (hc j hj).2)
  have e4 := cl_finish (g := g2) (x := x) (n := nI N) (u := S.1 17) (c := c) (A := A) (s := s) (d := d) (E := E) hlen p2'
  have hx : f_LL_publish (cb g x (nI len) 0 (nI N) (S.1 17) c A s d E) x = (if lg_cmp nm 0 = 0 then some (-3, cb g2 x 0 0 (nI N) (S.1 17) c A s d E) else if o = none then some (-3, cb g2 x 0 0 (nI N) (S.1 17) c A s d E) else if zi (b2 = len) = 0 then some (-3, cb g2 x 0 0 (nI N) (S.1 17) c A s d E) else
      (f_RG_exactly (cb g2 x 0 0 (nI N) (S.1 17) c A s d E) o (1 : Int32)).bind fun q28 =>
        (hp_o q28.2 (some x) 0).bind fun _ =>
        (f_LL_pickFor q28.2 x nm q28.1).bind fun q30 =>
        if q30.1 = none then (
          (hp_fI q30.2 (some x) 0 2).bind fun x35 =>
          if x35 < (20 : Int32) then (
            (hp_fI q30.2 (some x) 0 2).bind fun x38 =>
            (hp_fR q30.2 (some x) 0 1).bind fun x40 =>
            (some (hp_push q30.2 (.inr (3, [.int 0, .long 0, .null, .null, .null, .int 0, .int 0, .int 0])))).bind fun h44 =>
            (f_AR_init h44 q30.2.2 x38 nm o (some ch)).bind fun q45 =>
            (hp_sR q45 x40 4 3 x38 (some q30.2.2)).bind fun h47 =>
            (hp_fI h47 (some x) 0 2).bind fun x49 =>
            (hp_s h47 (some x) 0 2 (.int (x49 + (1 : Int32)))).bind fun h51 =>
            some (x38, h51)) else (
            some ((-2 : Int32), q30.2))) else (
          some ((-1 : Int32), q30.2))) := by
    unfold f_LL_publish
    simp only [cb_r0, cb_o1, Option.bind_some, e1, e2, e3, e4]
  obtain ⟨f1, f2, f3, f4⟩ := fx_spec c 58 len 0
  have efx : fx (S.2 1) 58 0 len = fx c 58 0 len := fx_congr (fun k _ k2 => hcc k (by omega))
  have evr : VrP (S.2 1) (fx c 58 0 len + 1) len ↔ VrP c (fx c 58 0 len + 1) len := VrP_congr (fun k _ k2 => hcc k (by omega))
  have enm : NmP (S.2 1) 0 (fx c 58 0 len) ↔ NmP c 0 (fx c 58 0 len) := NmP_congr (fun k _ k2 => hcc k (by omega))
  have md := fun h => md_publish h (x + 14) hlen h0 ht.1.2.1 hN (fun i hi => (ht.1.2.2 i hi).1)
  rw [efx, evr, enm] at md
  by_cases hK : NmP c 0 (fx c 58 0 len) ∧ fx c 58 0 len ≠ len ∧ VrP c (fx c 58 0 len + 1) len
  · obtain ⟨n0, n1, n2⟩ := w1 ⟨hK.1, hK.2.1⟩
    have eb2 : b2 = len := by
      rw [m2, n1]
      exact vmax (by have := hK.2.2.1; omega) (Nat.le_refl _) hK.2.2.vc (fun z => by omega)
    obtain ⟨v, hv⟩ := w2 (by rw [eb2, n1]; exact hK.2.2)
    have V := (v2 v hv).2
    rw [n1, eb2] at V
    have V2 := V.ext (x3.mono (lo := x + 35))
    have hg2 : x + 35 ≤ g2.2 := Nat.le_trans geo.1 (Nat.le_trans x2.1 x3.1)
    obtain ⟨g3, r, e5, x5, R5⟩ := cl_exactly (g := g2) (x := x) (l := 0) (p := 0) (n := nI N) (u := S.1 17) (c := c) (A := A) (s := s) (d := d) (E := E) (lo := x + 35) (w := 1) (by omega) hg2 (Or.inr rfl) V2
    have xx : Ext 0 g g3 := (x2.trans x3).trans x5
    have hg3 : x + 35 ≤ g3.2 := Nat.le_trans geo.1 xx.1
    have ht3 := ht.ext (xx.mono (lo := x + 35))
    have e6 := cl_pickS (l := 0) (p := 0) (u := S.1 17) (c := c) (s := s) (d := d) (E := E) ht3 R5 hK.1
    have hdup : ∀ y, y < N → ((S.2 8 y = 0 ∧ NmEq S y c (fx c 58 0 len) ∧ cmpP (prt (avr S y (tc S y)) (vl S y)) (prt (sh c (fx c 58 0 len + 1)) (len - (fx c 58 0 len + 1))) 12 0 = 0) ↔ DupP S (S.2 1) (fx c 58 0 len) len y) := by
      intro y hy
      have ea : NmEq S y (S.2 1) (fx c 58 0 len) ↔ NmEq S y c (fx c 58 0 len) := by
        unfold NmEq
        exact ⟨fun z => ⟨z.1, fun k hk => (z.2 k hk).trans (hcc k (by omega))⟩, fun z => ⟨z.1, fun k hk => (z.2 k hk).trans (hcc k (by omega)).symm⟩⟩
      unfold DupP
      rw [ea]
      have eb : vord (avr S y (tc S y)) (vl S y) (sh (S.2 1) (fx c 58 0 len + 1)) (len - (fx c 58 0 len + 1)) = cmpP (prt (avr S y (tc S y)) (vl S y)) (prt (sh c (fx c 58 0 len + 1)) (len - (fx c 58 0 len + 1))) 12 0 := by
        show cmpP (prt (avr S y (tc S y)) (vl S y)) (prt (sh (S.2 1) (fx c 58 0 len + 1)) (len - (fx c 58 0 len + 1))) 12 0 = _
        rw [prt_congr (v := sh (S.2 1) (fx c 58 0 len + 1)) (w := sh c (fx c 58 0 len + 1)) (fun j hj => hcc _ (by omega))]
      rw [eb]
    have hx2 : f_LL_publish (cb g x (nI len) 0 (nI N) (S.1 17) c A s d E) x = (if (pkF (fun i => S.2 8 i = 0 ∧ NmEq S i c (fx c 58 0 len) ∧ cmpP (prt (avr S i (tc S i)) (vl S i)) (prt (sh c (fx c 58 0 len + 1)) (len - (fx c 58 0 len + 1))) 12 0 = 0) (abP S) N 0 none).map ga = none then (if nI N < (20 : Int32) then (hp_sR (cb (nArt g3 (nI N) (nmv c (fx c 58 0 len) 0 0) v ch) x 0 0 (nI N) (S.1 17) c A s d E) (some (x + 3)) 4 3 (nI N) (some g3.2)).bind (fun h47 => (hp_fI h47 (some x) 0 2).bind fun x49 => (hp_s h47 (some x) 0 2 (.int (x49 + (1 : Int32)))).bind fun h51 => some (nI N, h51)) else some (-2, cb g3 x 0 0 (nI N) (S.1 17) c A s d E)) else some (-1, cb g3 x 0 0 (nI N) (S.1 17) c A s d E)) := by
      rw [hx, if_neg (fun z => n0 ((lg_cmp_eq _ _).mp z)), hv, if_neg (by simp), if_neg (fun z => zi_eq0.mp z eb2), e5]
      simp only [Option.bind_some, cb_o0]
      rw [n2, e6]
      simp only [Option.bind_some, cb_r2, cb_r1, cb_2, cb_push (show x + 14 ≤ g3.2 by omega), cl_newArt (show x + 14 ≤ g3.2 by omega)]
    obtain ⟨k1, k2⟩ := pkF_spec (fun i => S.2 8 i = 0 ∧ NmEq S i c (fx c 58 0 len) ∧ cmpP (prt (avr S i (tc S i)) (vl S i)) (prt (sh c (fx c 58 0 len + 1)) (len - (fx c 58 0 len + 1))) 12 0 = 0) (abP S) N 0 none
    cases hp : pkF (fun i => S.2 8 i = 0 ∧ NmEq S i c (fx c 58 0 len) ∧ cmpP (prt (avr S i (tc S i)) (vl S i)) (prt (sh c (fx c 58 0 len + 1)) (len - (fx c 58 0 len + 1))) 12 0 = 0) (abP S) N 0 none with
    | some y =>
      rw [hp] at hx2
      rw [Option.map_some, if_neg (by simp)] at hx2
      have hy := (k1 y hp).resolve_left (by simp)
      obtain ⟨S', q1, q2⟩ := ((md (cb g3 x 0 0 (nI N) (S.1 17) c A s d E)).2 hK).1 ⟨y, by omega, (hdup y (by omega)).mp hy.2.2⟩
      exact ok_tk hx2 xx hm ⟨S', q1, q2.tk⟩ geo rfl ht hr
    | none =>
      rw [hp] at hx2
      rw [Option.map_none, if_pos rfl] at hx2
      have hno : ¬ ∃ y, y < N ∧ DupP S (S.2 1) (fx c 58 0 len) len y := by
        rintro ⟨y, y1, y2⟩
        exact (k2 hp).2 y (Nat.zero_le _) (by omega) ((hdup y y1).mpr y2)
      by_cases h20 : N = 20
      · rw [if_neg (show ¬ nI N < (20 : Int32) from nI_nlt (b := 20) (by omega) (by omega))] at hx2
        obtain ⟨S', q1, q2⟩ := ((md (cb g3 x 0 0 (nI N) (S.1 17) c A s d E)).2 hK).2.1 hno h20
        exact ok_tk hx2 xx hm ⟨S', q1, q2.tk⟩ geo rfl ht hr
      · have hN20 : N < 20 := by omega
        rw [if_pos (show nI N < (20 : Int32) from nI_lt (b := 20) hN20 (by decide)), cb_as hN20 (hp_is_of (by rw [cb_out (by omega)]; exact nArt_o))] at hx2
        simp only [Option.bind_some, cb_r2, cb_w2, nI_1] at hx2
        have xx4 : Ext 0 g (nArt g3 (nI N) (nmv c (fx c 58 0 len) 0 0) v ch) := xx.trans nArt_e
        obtain ⟨S', q1, q2⟩ := ((md (cb (nArt g3 (nI N) (nmv c (fx c 58 0 len) 0 0) v ch) x 0 0 (nI (N + 1)) (S.1 17) c (va_up A N (some g3.2)) s d E)).2 hK).2.2 hno h20
        refine ok_mk (len := 0) (N := N + 1) (S := S) (S' := S') (R := R) (ga := va_up ga N g3.2) (gd := gd) hx2 (hm.ext (by omega) xx4) q1 ⟨Nat.le_trans geo.1 xx4.1, geo.2⟩ q2.1.2.2.1 (LnC.z q2.1.1) (ht3.pub hg3 hN20 q2 hcc ⟨hK.1, by omega, hK.2.2⟩ (V2.ext x5.mono) ((c3.ext (x5.mono (lo := x + 35))))) (hr.pub hN q2.1.2.2.2 (fun k hk => q2.2.1 k (by omega) (by omega) (by omega) (by omega) (by omega) (by omega)))
  · have hx2 : f_LL_publish (cb g x (nI len) 0 (nI N) (S.1 17) c A s d E) x = some (-3, cb g2 x 0 0 (nI N) (S.1 17) c A s d E) := by
      rw [hx]
      by_cases c1 : nm = 0
      · rw [if_pos ((lg_cmp_eq _ _).mpr c1)]
      · rw [if_neg (fun z => c1 ((lg_cmp_eq _ _).mp z))]
        by_cases c2 : o = none
        · rw [if_pos c2]
        · rw [if_neg c2]
          by_cases c4 : b2 = len
          · exfalso
            obtain ⟨v, hv⟩ := Option.ne_none_iff_exists'.mp c2
            have k1 := v1 c1
            have k2 := (v2 v hv).1
            rw [c4, (w1 k1).2.1] at k2
            exact hK ⟨k1.1, k1.2, k2⟩
          · rw [if_pos (zi_eq0.mpr c4)]
    obtain ⟨S', q1, q2⟩ := (md (cb g2 x 0 0 (nI N) (S.1 17) c A s d E)).1 hK
    exact ok_tk hx2 (x2.trans x3) hm ⟨S', q1, q2.tk⟩ geo rfl ht hr
end CALL6
