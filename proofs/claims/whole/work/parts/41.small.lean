/-! ===== compare, pack, retire on both sides ===== -/
theorem Vw.tk {S S' : MS} (h : Vw (tkS S) S') : Vw (va_up (tkS S).1 17 (S.1 17), S.2) S' := by
  have : (va_up (tkS S).1 17 (S.1 17), S.2) = tkS S := by
    show (va_up (tkS S).1 17 ((tkS S).1 17), S.2) = tkS S
    rw [va_up_id]; rfl
  rw [this]; exact h
section TK
variable {g : hp_H} {x : Nat} {l p n u : Int32} {c : Nat → Int32} {A : Nat → Option Nat} {s d : Nat} {E : Nat → ES} {lo : Nat}
/-- a call that took the line and left the tables and the result -/
theorem ok_tk {F G : hp_H → Nat → Option (Int32 × hp_H)} {h g' : hp_H} {r : Int32} {N R : Nat} {S : MS} {ga gd : Nat → Nat} {E' : Nat → ES} (e1 : F h x = some (r, (cb g' x 0 0 (nI N) u c A s d E'))) (he : Ext 0 g g') (hm : MdC g (x + 14) S) (e2 : ∃ S', G (md_set (cb g' x 0 0 (nI N) u c A s d E') (x + 14) S) (x + 14) = some (r, md_set (cb g' x 0 0 (nI N) u c A s d E') (x + 14) S') ∧ Vw (va_up (tkS S).1 17 u, S.2) S') (geo : x + 35 ≤ g.2 ∧ s ≤ 1 ∧ d ≤ 1 ∧ s ≠ d) (hE : E' s = E s) (ht : TbC (x + 35) g A S ga gd N) (hr : RsC (E s) S ga N R) : CallOk x F G h := by
  obtain ⟨S', q1, q2⟩ := e2
  refine ok_mk (len := 0) (S := S) (S' := S') (ga := ga) (gd := gd) (R := R) e1 (hm.ext (by omega) he) q1 ⟨Nat.le_trans geo.1 he.1, geo.2⟩ ?_ (LnC.z ?_) ?_ ?_
  · have := q2.1.2.2.1
    rw [this]; simp [va_up]
  · rw [q2.1.1]; rfl
  · refine (ht.ext he.mono).same (q2.1.2.1.trans rfl) (fun k k1 k2 => q2.2.1 k (by omega) (by omega) (by omega) (by omega) (by omega) (by omega) (by omega))
  · rw [hE]
    exact hr.same (q2.1.2.2.2.trans rfl) q2.2.2
/-- takeVersion, whatever stands there -/
theorem cl_tv {a len : Nat} (hlo : x + 14 ≤ lo) (hg : lo ≤ g.2) (hl : len ≤ 40) (ha : a ≤ len) : ∃ g' o b, f_LN_takeVersion (cb g x (nI len) (nI a) n u c A s d E) (x + 1) = some (o, (cb g' x (nI len) (nI b) n u c A s d E)) ∧ Ext 0 g g' ∧ a ≤ b ∧ b ≤ len ∧ b = rnn (fun k => VC (c k)) (len - a) a ∧ (∀ v, o = some v → VrP c a b ∧ Vat lo g' v (prt (sh c a) (b - a))) ∧ (VrP c a b → ∃ v, o = some v) := by
  obtain ⟨t1, t2⟩ := cl_takeVersion (g := g) (x := x) (n := n) (u := u) (c := c) (A := A) (s := s) (d := d) (E := E) hlo hg hl ha
  obtain ⟨r1, r2, -, -⟩ := rnn_spec (fun k => VC (c k)) (len - a) a
  by_cases hV : VrP c a (rnn (fun k => VC (c k)) (len - a) a)
  · obtain ⟨g', v, e1, e2, e3⟩ := t1 hV
    exact ⟨g', some v, _, e1, e2, r1, by omega, rfl, (fun v' hv' => by cases hv'; exact ⟨hV, e3⟩), fun _ => ⟨v, rfl⟩⟩
  · exact ⟨g, none, _, t2 hV, Ext.rfl', r1, by omega, rfl, (fun v' hv' => by cases hv'), fun z => absurd z hV⟩
/-- take, whatever stands there -/
theorem cl_tk {k len : Nat} (ch : Int32) (hl : len ≤ 40) (hk : k ≤ len) : ∃ k', f_LN_take (cb g x (nI len) (nI k) n u c A s d E) (x + 1) ch = some (zi (k < len ∧ c k = ch), (cb g x (nI len) (nI k') n u c A s d E)) ∧ k' ≤ len ∧ ((k < len ∧ c k = ch) → k' = k + 1) := by
  by_cases h : k < len ∧ c k = ch
  · exact ⟨k + 1, by rw [cl_take_1 hl h.1 h.2, zi_1 h], by omega, fun _ => rfl⟩
  · exact ⟨k, by rw [cl_take_0 hl hk h, zi_0 h], hk, fun z => absurd z h⟩
end TK
section CALL4
variable {x : Nat} {h : hp_H}
theorem ok_compare (hI : Inv x h) : CallOk x f_LL_compare f_MD_compare h := by
  obtain ⟨g, c, A, s, d, E, S, ga, gd, N, R, len, rfl, geo, hm, hl, ht, hr⟩ := hI
  obtain ⟨hlen, h0, hc⟩ := hl
  have hcc : ∀ j, j < len → S.2 1 j = c j := fun j hj => (hc j hj).1.symm
  obtain ⟨g1, o1, b1, e1, x1, p1, p1', m1, v1, w1⟩ := cl_tv (g := g) (x := x) (n := nI N) (u := S.1 17) (c := c) (A := A) (s := s) (d := d) (E := E) (lo := x + 35) (a := 0) (by omega) geo.1 hlen (Nat.zero_le _)
  obtain ⟨k', e2, p2, w2⟩ := cl_tk (g := g1) (x := x) (n := nI N) (u := S.1 17) (c := c) (A := A) (s := s) (d := d) (E := E) (k := b1) 58 hlen p1'
  obtain ⟨g2, o2, b2, e3, x3, p3, p3', m3, v3, w3⟩ := cl_tv (g := g1) (x := x) (n := nI N) (u := S.1 17) (c := c) (A := A) (s := s) (d := d) (E := E) (lo := x + 35) (a := k') (by omega) (Nat.le_trans geo.1 x1.1) hlen p2
  rw [nI_0] at e1
  have hx : f_LL_compare (cb g x (nI len) 0 (nI N) (S.1 17) c A s d E) x = (if o1 = none then some (-3, cb g2 x 0 0 (nI N) (S.1 17) c A s d E) else if zi (b1 < len ∧ c b1 = 58) = 0 then some (-3, cb g2 x 0 0 (nI N) (S.1 17) c A s d E) else if o2 = none then some (-3, cb g2 x 0 0 (nI N) (S.1 17) c A s d E) else if zi (b2 = len) = 0 then some (-3, cb g2 x 0 0 (nI N) (S.1 17) c A s d E) else (hp_o (cb g2 x 0 0 (nI N) (S.1 17) c A s d E) o1 6).bind fun b31 => (f_VS_orderAgainst (cb g2 x 0 0 (nI N) (S.1 17) c A s d E) b31 o2).bind fun q29 => some (3 + q29.1, q29.2)) := by
    unfold f_LL_compare
    simp only [cb_r0, cb_o1, Option.bind_some, e1, e2, e3, cl_finish hlen p3']
  obtain ⟨f1, f2, f3, f4⟩ := fx_spec c 58 len 0
  have efx : fx (S.2 1) 58 0 len = fx c 58 0 len := fx_congr (fun k _ k2 => hcc k (by omega))
  have evr : ∀ a b, b ≤ len → (VrP (S.2 1) a b ↔ VrP c a b) := fun a b hb => VrP_congr (fun k _ k2 => hcc k (by omega))
  obtain ⟨m5, m6⟩ := md_compare (cb g2 x 0 0 (nI N) (S.1 17) c A s d E) (x + 14) hlen h0
  rw [efx, evr 0 _ (by omega), evr _ _ (Nat.le_refl _)] at m5 m6
  by_cases hK : fx c 58 0 len ≠ len ∧ VrP c 0 (fx c 58 0 len) ∧ VrP c (fx c 58 0 len + 1) len
  · have q58 := f4 (by omega)
    have eb1 : b1 = fx c 58 0 len := by
      rw [m1]
      exact vmax (Nat.zero_le _) (by omega) hK.2.1.vc (fun _ z => (vc_n z).2.2.2.2.2 q58)
    have t2 : b1 < len ∧ c b1 = 58 := by rw [eb1]; exact ⟨by omega, q58⟩
    have ek := w2 t2
    have eb2 : b2 = len := by
      rw [m3, ek, eb1]
      exact vmax (by have := hK.2.2.1; omega) (Nat.le_refl _) hK.2.2.vc (fun z => by omega)
    obtain ⟨u1, hu1⟩ := w1 (by rw [eb1]; exact hK.2.1)
    obtain ⟨u2, hu2⟩ := w3 (by rw [eb2, ek, eb1]; exact hK.2.2)
    have V1 := ((v1 u1 hu1).2.ext x3.mono).ext (Ext.cbo (g := g2) (x := x) (l := 0) (p := 0) (n := nI N) (u := S.1 17) (c := c) (A := A) (s := s) (d := d) (E := E) (by omega))
    have V2 := (v3 u2 hu2).2.ext (Ext.cbo (g := g2) (x := x) (l := 0) (p := 0) (n := nI N) (u := S.1 17) (c := c) (A := A) (s := s) (d := d) (E := E) (by omega))
    have hx2 : f_LL_compare (cb g x (nI len) 0 (nI N) (S.1 17) c A s d E) x = some (3 + cmpP (prt (sh c 0) (b1 - 0)) (prt (sh c k') (b2 - k')) 12 0, cb g2 x 0 0 (nI N) (S.1 17) c A s d E) := by
      rw [hx, hu1, hu2, if_neg (by simp), if_neg (fun z => zi_eq0.mp z t2), if_neg (by simp), if_neg (fun z => zi_eq0.mp z eb2), hp_o_of V1.2.2.1, Option.bind_some, cl_order V1 V2, Option.bind_some]
    have hv : vord (S.2 1) (fx c 58 0 len) (sh (S.2 1) (fx c 58 0 len + 1)) (len - (fx c 58 0 len + 1)) = cmpP (prt (sh c 0) (b1 - 0)) (prt (sh c k') (b2 - k')) 12 0 := by
      rw [ek, eb1, eb2, Nat.sub_zero]
      show cmpP (prt (S.2 1) (fx c 58 0 len)) (prt (sh (S.2 1) (fx c 58 0 len + 1)) (len - (fx c 58 0 len + 1))) 12 0 = _
      rw [prt_congr (v := S.2 1) (w := sh c 0) (fun j hj => by unfold sh; rw [Nat.zero_add]; exact hcc j (by omega)), prt_congr (v := sh (S.2 1) (fx c 58 0 len + 1)) (w := sh c (fx c 58 0 len + 1)) (fun j hj => hcc _ (by omega))]
    obtain ⟨S', q1, q2⟩ := m6 hK
    rw [hv] at q1
    exact ok_tk hx2 (x1.trans x3) hm ⟨S', q1, q2.tk⟩ geo rfl ht hr
  · have hx2 : f_LL_compare (cb g x (nI len) 0 (nI N) (S.1 17) c A s d E) x = some (-3, cb g2 x 0 0 (nI N) (S.1 17) c A s d E) := by
      rw [hx]
      by_cases c1 : o1 = none
      · rw [if_pos c1]
      · rw [if_neg c1]
        by_cases c2 : b1 < len ∧ c b1 = 58
        · rw [if_neg (fun z => zi_eq0.mp z c2)]
          by_cases c3 : o2 = none
          · rw [if_pos c3]
          · rw [if_neg c3]
            by_cases c4 : b2 = len
            · exfalso
              obtain ⟨u1, hu1⟩ := Option.ne_none_iff_exists'.mp c1
              obtain ⟨u2, hu2⟩ := Option.ne_none_iff_exists'.mp c3
              have h1 := (v1 u1 hu1).1
              have h2 := (v3 u2 hu2).1
              have ek := w2 c2
              have efb : fx c 58 0 len = b1 := fx_eq (Nat.zero_le _) (by omega) (fun k _ k2 => (vc_n (h1.vc k (Nat.zero_le _) k2)).2.2.2.2.2) (fun _ => c2.2)
              rw [c4, ek] at h2
              exact hK (by rw [efb]; exact ⟨by omega, h1, h2⟩)
            · rw [if_pos (zi_eq0.mpr c4)]
        · rw [if_pos (zi_eq0.mpr c2)]
    obtain ⟨S', q1, q2⟩ := m5 hK
    exact ok_tk hx2 (x1.trans x3) hm ⟨S', q1, q2.tk⟩ geo rfl ht hr
end CALL4
/-- an artifact's classes or its being retired changed -/
theorem TbC.updA {lo : Nat} {g : hp_H} {A : Nat → Option Nat} {S S' : MS} {ga gd : Nat → Nat} {N i : Nat} (h : TbC lo g A S ga gd N) (hi : i < N) {cl rt : Int32} {nm : Int64} {v ch : Nat} (hrt : rt = 0 ∨ rt = 1) (ha : Aat lo g (ga i) (nI i) nm v ch (S.2 10 i) (S.2 9 i) (S.2 8 i)) (h4 : S'.1 4 = S.1 4) (h8 : S'.2 8 = va_up (S.2 8) i rt) (h9 : S'.2 9 = va_up (S.2 9) i cl) (hs : ∀ k, 5 ≤ k → k ≤ 16 → k ≠ 8 → k ≠ 9 → S'.2 k = S.2 k) : TbC lo (hp_up g (ga i) (.inr (3, [.int (nI i), .long nm, .ref v, .ref ch, .ref (ga i + 1), .int (S.2 10 i), .int cl, .int rt]))) A S' ga gd N := by
  obtain ⟨⟨t1, t2, t3⟩, z, h1, h2, h3⟩ := h
  have e5 := hs 5 (by decide) (by decide) (by decide) (by decide)
  have e6 := hs 6 (by decide) (by decide) (by decide) (by decide)
  have e7 := hs 7 (by decide) (by decide) (by decide) (by decide)
  have e10 := hs 10 (by decide) (by decide) (by decide) (by decide)
  have e11 := hs 11 (by decide) (by decide) (by decide) (by decide)
  have e12 := hs 12 (by decide) (by decide) (by decide) (by decide)
  have e13 := hs 13 (by decide) (by decide) (by decide) (by decide)
  have e14 := hs 14 (by decide) (by decide) (by decide) (by decide)
  have e15 := hs 15 (by decide) (by decide) (by decide) (by decide)
  have e16 := hs 16 (by decide) (by decide) (by decide) (by decide)
  have hA : ∀ i, ArtE S S' i := fun i => ⟨by rw [e5], by rw [e7], fun _ _ => by rw [e6]⟩
  have hD : ∀ D, DepE S S' D := fun D => ⟨by rw [e11], by rw [e12], fun _ _ => by rw [e13]⟩
  have hX : ∀ D, ExcQ S S' D := fun D => ⟨by rw [e14], fun _ _ => ⟨by rw [e15], fun _ _ => by rw [e16]⟩⟩
  have hn : ∀ i, ndc S' i = ndc S i := fun i => by unfold ndc; rw [e10]
  obtain ⟨v', ch', df, a1, a2, a3, a4, a5⟩ := (h1 i hi).2
  have kp : Kp2 lo g (hp_up g (ga i) (.inr (3, [.int (nI i), .long nm, .ref v, .ref ch, .ref (ga i + 1), .int (S.2 10 i), .int cl, .int rt]))) (ga i) 3 5 := ⟨Nat.le_refl _, ⟨_, ha.2.2⟩, ⟨_, a4⟩, fun q _ _ q3 _ => by rw [hp_up_1, if_neg q3]⟩
  have same : nm = nmv (fun j => S.2 6 (i * 21 + j)) (tc S i) 0 0 ∧ v = v' ∧ ch = ch' := by
    have := ha.2.2.symm.trans a1.2.2
    simp only [Option.some.injEq, Sum.inr.injEq, Prod.mk.injEq, List.cons.injEq, Value.long.injEq, Value.ref.injEq] at this
    exact ⟨this.2.2.1, this.2.2.2.1, this.2.2.2.2.1⟩
  obtain ⟨s1, rfl, rfl⟩ := same
  refine ⟨⟨t1, h4.trans t2, fun j hj => ?_⟩, ⟨fun j j1 j2 => ?_, fun j k j1 k1 hk => ?_⟩, fun j hj => ⟨(h1 j hj).1, ?_⟩, fun j k hj hk => ?_, h3.1, fun j k j' q hj hk hj' hq => ?_⟩
  · obtain ⟨b1, b2, b3, b4, b5⟩ := t3 j hj
    refine ⟨b1.e (hA j), ?_, by rw [e10, hn]; exact b3, by rw [hn]; exact b4, fun k hk => ?_⟩
    · rw [h8]
      by_cases hji : j = i
      · rw [hji, va_up_self]; exact hrt
      · rw [va_up_ne _ _ hji]; exact b2
    · rw [hn] at hk
      exact (b5 k hk).e (hD _) (hX _)
  · rw [h8, h9, e10, va_up_ne _ _ (by omega), va_up_ne _ _ (by omega)]; exact z.1 j j1 j2
  · rw [hn] at hk; rw [e14]; exact z.2 j k j1 k1 hk
  · by_cases hji : j = i
    · subst hji
      have hlo := ha.1
      refine ⟨v, ch, df, ⟨ha.1, ha.2.1, ?_⟩, ?_, ?_, ?_, fun k hk => ?_⟩
      · rw [hp_up_1, if_pos rfl, nma_e (t3 j hj).1 (hA j), e10, h8, h9, va_up_self, va_up_self, s1]
      · rw [avr_e (t3 j hj).1 (hA j)]; exact a2.kp kp (by decide)
      · rw [tl_e (hA j), e6]; exact a3.kp kp (by decide)
      · rw [hp_up_1, if_neg (by omega)]; exact a4
      · rw [hn] at hk; exact a5 k hk
    · exact ((h1 j hj).2.kp kp (by decide) (by decide) (Or.inr (fun e => hji (h3.1 j i hj hi e)))).e (t3 j hj).1 (hA j) (by rw [h8, va_up_ne _ _ hji]) (by rw [h9, va_up_ne _ _ hji]) (by rw [e10]) (fun _ _ => rfl)
  · rw [hn] at hk
    exact ((h2 j k hj hk).kp kp (by decide) (by decide) (Or.inl (by decide))).e ((t3 j hj).2.2.2.2 k hk) (hD _) (hX _)
  · rw [hn] at hk hq
    exact h3.2 j k j' q hj hk hj' hq
theorem MdC.up {g : hp_H} {m a : Nat} {S : MS} {e : hp_E} (hm : MdC g m S) (ha : m + 21 ≤ a) : MdC (hp_up g a e) m S := fun j hj => by
  rw [hp_up_1, if_neg (by omega)]; exact hm j hj
section CALL5
variable {x : Nat} {h : hp_H}
theorem ok_pack (hI : Inv x h) (v w on : Int32) (hon : on = 0 ∨ on = 1) : CallOk x (fun h x => f_LL_pack h x v w on) (fun h x => f_MD_pack h x v w on) h := by
  obtain ⟨g, c, A, s, d, E, S, ga, gd, N, R, len, rfl, geo, hm, hl, ht, hr⟩ := hI
  obtain ⟨a1, a2⟩ := cl_artAt (x := x) (g := g) (l := nI len) (p := 0) (u := S.1 17) (c := c) (s := s) (d := d) (E := E) ht.1.1 (fun i hi => (ht.2.2.1 i hi).1) v
  have key := fun h => md_pack h (x + 14) ht.1.2.1 ht.1.1 v w on
  by_cases hex : ∃ i, i < N ∧ v = nI i
  · obtain ⟨i, i1, i2⟩ := hex
    obtain ⟨v', ch, df, q1, -, -, q4, -⟩ := (ht.2.2.1 i i1).2
    have hlo := q1.1
    have ec : (cb g x (nI len) 0 (nI N) (S.1 17) c A s d E).1 (ga i) = some (.inr (3, [.int (nI i), .long (nmv (fun j => S.2 6 (i * 21 + j)) (tc S i) 0 0), .ref v', .ref ch, .ref (ga i + 1), .int (S.2 10 i), .int (S.2 9 i), .int (S.2 8 i)])) := by rw [cb_out (by omega)]; exact q1.2.2
    have eo : hp_o (cb g x (nI len) 0 (nI N) (S.1 17) c A s d E) (some (ga i)) 3 = some (ga i) := hp_o_of ec
    have e6 : hp_fI (cb g x (nI len) 0 (nI N) (S.1 17) c A s d E) (some (ga i)) 3 6 = some (S.2 9 i) := hp_fI_of ec rfl
    by_cases c2 : w < 0
    · refine ok_mk (r := -1) (S' := S) ?_ hm ((key _).1 (Or.inr (Or.inl c2))) geo rfl hl ht hr
      simp only [f_LL_pack, f_LL_isClass, cb_o0, Option.bind_some, a2 i i1 i2]
      rw [if_neg (by simp), if_pos c2, Option.bind_some, if_pos rfl]
    · by_cases c3 : w ≤ 31
      · obtain ⟨k, k1, k2⟩ := nI_of2 (M := 31) (n := 31) (by decide) c2 c3
        subst k2
        have c4 : ¬ (32 : Int32) ≤ nI k := nI_ge (b := 32) (by omega) (by decide)
        have hset : f_AR_setClass (cb g x (nI len) 0 (nI N) (S.1 17) c A s d E) (ga i) (nI k) on = some (cb (hp_up g (ga i) (.inr (3, [.int (nI i), .long (nmv (fun j => S.2 6 (i * 21 + j)) (tc S i) 0 0), .ref v', .ref ch, .ref (ga i + 1), .int (S.2 10 i), .int (pkc (S.2 9 i) (nI k) on), .int (S.2 8 i)]))) x (nI len) 0 (nI N) (S.1 17) c A s d E) := by
          unfold f_AR_setClass
          simp only [e6, Option.bind_some]
          rcases hon with z | z
          · subst z
            rw [if_pos rfl, cb_so (by omega) q1.2.2 (by simp), Option.bind_some, pk_off (by omega)]
            rfl
          · subst z
            rw [if_neg (by decide), cb_so (by omega) q1.2.2 (by simp), Option.bind_some, pk_on (by omega)]
            rfl
        obtain ⟨S', m1, m2, m3, m4⟩ := (key (cb (hp_up g (ga i) (.inr (3, [.int (nI i), .long (nmv (fun j => S.2 6 (i * 21 + j)) (tc S i) 0 0), .ref v', .ref ch, .ref (ga i + 1), .int (S.2 10 i), .int (pkc (S.2 9 i) (nI k) on), .int (S.2 8 i)]))) x (nI len) 0 (nI N) (S.1 17) c A s d E)).2 i i1 i2 c2 c3
        refine ok_mk (r := 0) (S' := S') ?_ (hm.up (by omega)) m1 geo (by rw [m2]) ⟨hl.1, by rw [m2]; exact hl.2.1, fun j hj => by rw [m3 1 (by decide)]; exact hl.2.2 j hj⟩ (ht.updA i1 (ht.1.2.2 i i1).2.1 q1 (by rw [m2]) (by rw [m3 8 (by decide), va_up_id]) m4 (fun k _ _ _ k9 => m3 k k9)) (hr.same (by rw [m2]) (fun e _ => ⟨by rw [m3 20 (by decide)], by rw [m3 21 (by decide)], by rw [m3 22 (by decide)]⟩))
        simp only [f_LL_pack, f_LL_isClass, cb_o0, Option.bind_some, a2 i i1 i2]
        rw [if_neg (by simp), if_neg c2, if_neg c4, Option.bind_some, if_neg (show ¬ (1 : Int32) = 0 by decide), eo, Option.bind_some, hset, Option.bind_some]
      · refine ok_mk (r := -1) (S' := S) ?_ hm ((key _).1 (Or.inr (Or.inr c3))) geo rfl hl ht hr
        have c4 : (32 : Int32) ≤ w := by
          obtain ⟨k, k1, rfl⟩ := nI_of c2
          have : ¬ k ≤ 31 := fun z => c3 (nI_le (b := 31) z (by decide))
          exact nI_le (a := 32) (by omega) k1
        simp only [f_LL_pack, f_LL_isClass, cb_o0, Option.bind_some, a2 i i1 i2]
        rw [if_neg (by simp), if_neg c2, if_pos c4, Option.bind_some, if_pos rfl]
  · refine ok_mk (r := -1) (S' := S) ?_ hm ((key _).1 (Or.inl hex)) geo rfl hl ht hr
    simp only [f_LL_pack, cb_o0, Option.bind_some, a1 hex]
    rw [if_pos trivial]
theorem ok_retire (hI : Inv x h) (v : Int32) : CallOk x (fun h x => f_LL_retire h x v) (fun h x => f_MD_retire h x v) h := by
  obtain ⟨g, c, A, s, d, E, S, ga, gd, N, R, len, rfl, geo, hm, hl, ht, hr⟩ := hI
  obtain ⟨a1, a2⟩ := cl_artAt (x := x) (g := g) (l := nI len) (p := 0) (u := S.1 17) (c := c) (s := s) (d := d) (E := E) ht.1.1 (fun i hi => (ht.2.2.1 i hi).1) v
  have key := fun h => md_retire h (x + 14) ht.1.2.1 ht.1.1 v
  by_cases hex : ∃ i, i < N ∧ v = nI i
  · obtain ⟨i, i1, i2⟩ := hex
    obtain ⟨v', ch, df, q1, -, -, q4, -⟩ := (ht.2.2.1 i i1).2
    have hlo := q1.1
    have ec : (cb g x (nI len) 0 (nI N) (S.1 17) c A s d E).1 (ga i) = some (.inr (3, [.int (nI i), .long (nmv (fun j => S.2 6 (i * 21 + j)) (tc S i) 0 0), .ref v', .ref ch, .ref (ga i + 1), .int (S.2 10 i), .int (S.2 9 i), .int (S.2 8 i)])) := by rw [cb_out (by omega)]; exact q1.2.2
    have e7 : hp_fI (cb g x (nI len) 0 (nI N) (S.1 17) c A s d E) (some (ga i)) 3 7 = some (S.2 8 i) := hp_fI_of ec rfl
    by_cases c1 : S.2 8 i = 0
    · have m1 := (key (cb (hp_up g (ga i) (.inr (3, [.int (nI i), .long (nmv (fun j => S.2 6 (i * 21 + j)) (tc S i) 0 0), .ref v', .ref ch, .ref (ga i + 1), .int (S.2 10 i), .int (S.2 9 i), .int 1]))) x (nI len) 0 (nI N) (S.1 17) c A s d E)).2.2 i i1 i2 c1
      refine ok_mk (r := 0) (S' := (S.1, va_up S.2 8 (va_up (S.2 8) i 1))) ?_ (hm.up (by omega)) m1 geo rfl ⟨hl.1, hl.2.1, hl.2.2⟩ (ht.updA i1 (Or.inr rfl) q1 rfl (by show va_up S.2 8 (va_up (S.2 8) i 1) 8 = _; rw [va_up_self]) (by rw [va_up_id]; rfl) (fun k _ _ k8 _ => va_up_ne _ _ k8)) (hr.same rfl (fun e _ => ⟨rfl, rfl, rfl⟩))
      simp only [f_LL_retire, cb_o0, Option.bind_some, a2 i i1 i2, e7]
      rw [if_neg (by simp), if_pos c1, cb_so (by omega) q1.2.2 (by simp), Option.bind_some]
      rfl
    · refine ok_mk (r := -1) (S' := S) ?_ hm ((key _).2.1 i i1 i2 c1) geo rfl hl ht hr
      simp only [f_LL_retire, cb_o0, Option.bind_some, a2 i i1 i2, e7]
      rw [if_neg (by simp), if_neg c1]
  · refine ok_mk (r := -1) (S' := S) ?_ hm ((key _).1 hex) geo rfl hl ht hr
    simp only [f_LL_retire, cb_o0, Option.bind_some, a1 hex]
    rw [if_pos trivial]
end CALL5
