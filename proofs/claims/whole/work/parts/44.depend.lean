/-! ===== depend on both sides ===== -/
section DEP
variable {g : hp_H} {x : Nat} {l p n u : Int32} {c : Nat → Int32} {A : Nat → Option Nat} {s d : Nat} {E : Nat → ES} {lo : Nat}
/-- a new dependency object and its array of exclusions -/
def nDep (g : hp_H) (nm : Int64) (r : Nat) (op : Int32) : hp_H := hp_up (hp_push (hp_push g (.inr (4, [.long 0, .null, .int 0, .null, .int 0]))) (.inl (1, 3, .inr (.inl (fun _ => 0))))) g.2 (.inr (4, [.long nm, .ref r, .int op, .ref (g.2 + 1), .int 0]))
theorem nDep_2 {nm : Int64} {r : Nat} {op : Int32} : (nDep g nm r op).2 = g.2 + 2 := rfl
theorem nDep_o {nm : Int64} {r : Nat} {op : Int32} : (nDep g nm r op).1 g.2 = some (.inr (4, [.long nm, .ref r, .int op, .ref (g.2 + 1), .int 0])) := by
  unfold nDep; rw [hp_up_1, if_pos rfl]
theorem nDep_a {nm : Int64} {r : Nat} {op : Int32} : (nDep g nm r op).1 (g.2 + 1) = some (.inl (1, 3, .inr (.inl (fun _ => 0)))) := by
  unfold nDep; rw [hp_up_1, if_neg (by omega), hp_push_1, hp_push_2, if_pos rfl]
theorem nDep_e {nm : Int64} {r : Nat} {op : Int32} : Ext 0 g (nDep g nm r op) := ⟨by rw [nDep_2]; omega, fun q _ q2 => by
  unfold nDep; rw [hp_up_1, if_neg (by omega), hp_push_1, hp_push_2, if_neg (by omega), hp_push_1, if_neg (by omega)]⟩
theorem cl_newDep {nm : Int64} {r : Nat} {op : Int32} (hx : x + 14 ≤ g.2) (ho : op = 0 ∨ op = 1) : f_DP_init (cb (hp_push g (.inr (4, [.long 0, .null, .int 0, .null, .int 0]))) x l p n u c A s d E) g.2 nm (some r) op = some (cb (nDep g nm r op) x l p n u c A s d E) := by
  have hz : hp_z op = some op := by unfold hp_z; rw [if_pos ho]
  unfold f_DP_init
  rw [cb_push (by rw [hp_push_2]; omega), Option.bind_some, cb_so (fs := [.long 0, .null, .int 0, .null, .int 0]) hx (by rw [hp_push_1, hp_push_2, if_neg (by omega), hp_push_1, if_pos rfl]) (by simp), Option.bind_some]
  rw [cb_sx hx (by simp), Option.bind_some, cb_sx hx (by simp), Option.bind_some, cb_sx hx (by simp), Option.bind_some, hz, Option.bind_some, cb_sx hx (by simp), Option.bind_some]
  rfl
/-- the owner's array and number, with one dependency more -/
def aDep (g : hp_H) (a : Nat) (fs : List Value) (df : Nat → Option Nat) : hp_H := hp_up (hp_up g (a + 1) (.inl (5, 6, .inr (.inr (.inr (.inr df)))))) a (.inr (3, fs))
theorem cl_addDep {a k q num v ch : Nat} {nm : Int64} {cl rt : Int32} {df : Nat → Option Nat} {fs : List Value} (hx : x + 14 ≤ a) (hk : k < 6) (hc : g.1 a = some (.inr (3, [.int (nI num), .long nm, .ref v, .ref ch, .ref (a + 1), .int (nI k), .int cl, .int rt]))) (ha : g.1 (a + 1) = some (.inl (5, 6, .inr (.inr (.inr (.inr df)))))) (hq : g.1 q = some (.inr (4, fs))) (hxq : x + 14 ≤ q) : f_AR_addDependency (cb g x l p n u c A s d E) a (some q) = some (cb (aDep g a [.int (nI num), .long nm, .ref v, .ref ch, .ref (a + 1), .int (nI (k + 1)), .int cl, .int rt] (va_up df k (some q))) x l p n u c A s d E) := by
  have ec : (cb g x l p n u c A s d E).1 a = some (.inr (3, [.int (nI num), .long nm, .ref v, .ref ch, .ref (a + 1), .int (nI k), .int cl, .int rt])) := by rw [cb_out hx]; exact hc
  have e5 : hp_fI (cb g x l p n u c A s d E) (some a) 3 5 = some (nI k) := hp_fI_of ec rfl
  have e4 : hp_fR (cb g x l p n u c A s d E) (some a) 3 4 = some (some (a + 1)) := hp_fR_ref ec rfl
  have es : hp_sR (cb g x l p n u c A s d E) (some (a + 1)) 5 4 (nI k) (some q) = some (cb (hp_up g (a + 1) (.inl (5, 6, .inr (.inr (.inr (.inr (va_up df k (some q)))))))) x l p n u c A s d E) := by
    rw [hp_sR_at (f := df) (n := 6) (by rw [cb_out (by omega)]; exact ha) (hp_is_of (by rw [cb_out hxq]; exact hq)) hk (by decide), cb_hup (by omega)]
  have ec2 : (hp_up g (a + 1) (.inl (5, 6, .inr (.inr (.inr (.inr (va_up df k (some q)))))))).1 a = some (.inr (3, [.int (nI num), .long nm, .ref v, .ref ch, .ref (a + 1), .int (nI k), .int cl, .int rt])) := by rw [hp_up_1, if_neg (by omega)]; exact hc
  have e5' : hp_fI (cb (hp_up g (a + 1) (.inl (5, 6, .inr (.inr (.inr (.inr (va_up df k (some q)))))))) x l p n u c A s d E) (some a) 3 5 = some (nI k) := hp_fI_of (by rw [cb_out hx]; exact ec2) rfl
  unfold f_AR_addDependency
  simp only [e5, e4, Option.bind_some, es, e5', nI_1]
  rw [if_neg (show ¬ (6 : Int32) ≤ nI k from nI_ge (b := 6) hk (by decide)), cb_so hx ec2 (by simp), Option.bind_some]
  rfl
end DEP
/-- the tables with one dependency more -/
theorem TbC.dep {lo : Nat} {g : hp_H} {A : Nat → Option Nat} {S S' : MS} {ga gd : Nat → Nat} {N len i k r v ch : Nat} {op : Int32} {c : Nat → Int32} {df : Nat → Option Nat} (h : TbC lo g A S ga gd N) (hlo : lo ≤ g.2) (hi : i < N) (hk : k < 6) (hk10 : S.2 10 i = nI k) (ho : op = 0 ∨ op = 1) (hlen : len ≤ 40) (hP : DepT S S' i k len op) (hc : ∀ j, j < len → S.2 1 j = c j) (hL : LineR c len)
    (hr : Rat lo g r (zi (VrP c (fx c 58 0 len + 1) len)) (HdP c (fx c 58 0 len + 1) len)) (ha : Aat lo g (ga i) (nI i) (nmv (fun j => S.2 6 (i * 21 + j)) (tc S i) 0 0) v ch (S.2 10 i) (S.2 9 i) (S.2 8 i)) (hv : Vat lo g v (prt (avr S i (tc S i)) (vl S i))) (hch : Chat lo g ch (tl S i) (fun j => S.2 6 (i * 21 + j))) (hda : g.1 (ga i + 1) = some (.inl (5, 6, .inr (.inr (.inr (.inr df)))))) (hdf : ∀ q, q < ndc S i → df q = some (gd (i * 6 + q))) :
    TbC lo (aDep (nDep g (nmv c (fx c 58 0 len) 0 0) r op) (ga i) [.int (nI i), .long (nmv (fun j => S.2 6 (i * 21 + j)) (tc S i) 0 0), .ref v, .ref ch, .ref (ga i + 1), .int (nI (k + 1)), .int (S.2 9 i), .int (S.2 8 i)] (va_up df k (some g.2))) A S' ga (va_up gd (i * 6 + k) g.2) N := by
  obtain ⟨⟨t1, t2, t3⟩, z, h1, h2, h3⟩ := h
  obtain ⟨⟨p0, p4, p17, p18⟩, ps, p10, p11, p12, p13, p13'⟩ := hP
  have e5 := ps 5 (by decide) (by decide) (by decide) (by decide) (by decide)
  have e6 := ps 6 (by decide) (by decide) (by decide) (by decide) (by decide)
  have e7 := ps 7 (by decide) (by decide) (by decide) (by decide) (by decide)
  have e8 := ps 8 (by decide) (by decide) (by decide) (by decide) (by decide)
  have e9 := ps 9 (by decide) (by decide) (by decide) (by decide) (by decide)
  have e14 := ps 14 (by decide) (by decide) (by decide) (by decide) (by decide)
  have e15 := ps 15 (by decide) (by decide) (by decide) (by decide) (by decide)
  have e16 := ps 16 (by decide) (by decide) (by decide) (by decide) (by decide)
  have hkn : ndc S i = k := by unfold ndc; rw [hk10, nI_clamp (by omega)]
  have hA : ∀ j, ArtE S S' j := fun j => ⟨by rw [e5], by rw [e7], fun _ _ => by rw [e6]⟩
  have hX : ∀ D, ExcQ S S' D := fun D => ⟨by rw [e14], fun _ _ => ⟨by rw [e15], fun _ _ => by rw [e16]⟩⟩
  have hD : ∀ D, D ≠ i * 6 + k → DepE S S' D := fun D hd => ⟨by rw [p11, va_up_ne _ _ hd], by rw [p12, va_up_ne _ _ hd], fun j hj => p13 _ (by omega)⟩
  have hn : ∀ j, j ≠ i → ndc S' j = ndc S j := fun j hj => by unfold ndc; rw [p10, va_up_ne _ _ hj]
  have hni : ndc S' i = k + 1 := by unfold ndc; rw [p10, va_up_self, nI_clamp (by omega)]
  have hn6 : ∀ j q, j < N → q < ndc S j → q < 6 := fun j q hj hq => Nat.lt_of_lt_of_le hq (t3 j hj).2.2.2.1
  -- the new dependency
  have edl : dl S' (i * 6 + k) = len := by unfold dl; rw [p12, va_up_self, nI_clamp (by omega)]
  have etx : ∀ j, j < len → dtx S' (i * 6 + k) j = c j := fun j hj => (p13' j hj).trans (hc j hj)
  have edq : dq S' (i * 6 + k) = fx c 58 0 len := by
    unfold dq; rw [edl]; exact fx_congr fun j _ j2 => etx j (by omega)
  have eop : S'.2 11 (i * 6 + k) = op := by
    rw [p11, va_up_self]
    rcases ho with w | w <;> rw [w]
    · exact nar0
    · exact nar1
  have e140 : S'.2 14 (i * 6 + k) = 0 := by rw [e14]; exact z.2 i k (by omega) hk (fun _ => by omega)
  have hLn : LineR (dtx S' (i * 6 + k)) len := (LineR_congr etx).mpr hL
  have hqlen : fx c 58 0 len + 1 ≤ len := by
    obtain ⟨f1, f2, -, -⟩ := fx_spec c 58 len 0
    have := hL.2.1
    omega
  have hdv : DepV S' (i * 6 + k) := ⟨⟨by omega, by rw [edl, p12, va_up_self], by rw [edl]; exact hlen, by rw [edl]; exact hLn, by rw [eop]; exact ho⟩, 0, by omega, e140, fun e he => by omega⟩
  -- the heap
  have he : Ext lo g (nDep g (nmv c (fx c 58 0 len) 0 0) r op) := nDep_e.mono
  have ha2 := ha.ext he
  have hgi := ha.2.1
  have hda2 : (nDep g (nmv c (fx c 58 0 len) 0 0) r op).1 (ga i + 1) = some (.inl (5, 6, .inr (.inr (.inr (.inr df))))) := (he.2 _ (by have := ha.1; omega) hgi).trans hda
  have kp : Kp2 lo (nDep g (nmv c (fx c 58 0 len) 0 0) r op) (aDep (nDep g (nmv c (fx c 58 0 len) 0 0) r op) (ga i) [.int (nI i), .long (nmv (fun j => S.2 6 (i * 21 + j)) (tc S i) 0 0), .ref v, .ref ch, .ref (ga i + 1), .int (nI (k + 1)), .int (S.2 9 i), .int (S.2 8 i)] (va_up df k (some g.2))) (ga i) 3 5 := ⟨Nat.le_refl _, ⟨_, ha2.2.2⟩, ⟨_, hda2⟩, fun q _ _ q3 q4 => by unfold aDep; rw [hp_up_1, if_neg q3, hp_up_1, if_neg q4]⟩
  have hne : ∀ j q, j < N → q < ndc S j → j * 6 + q ≠ i * 6 + k := by
    intro j q hj hq e
    have q6 := hn6 j q hj hq
    have : j = i := by omega
    subst this
    omega
  have hgd : ∀ j q, j < N → q < ndc S j → gd (j * 6 + q) ≠ g.2 := by
    intro j q hj hq e
    have := (h2 j q hj hq).2.1
    omega
  have hnd : ∀ j q, j < N → q < ndc S' j → (q < ndc S j ∨ (j = i ∧ q = k)) := by
    intro j q hj hq
    by_cases w : j = i
    · subst w; rw [hni] at hq; omega
    · rw [hn j w] at hq; exact Or.inl hq
  refine ⟨⟨t1, p4.trans t2, fun j hj => ?_⟩, ⟨fun j j1 j2 => ?_, fun j q j1 k1 hq => ?_⟩, fun j hj => ⟨(h1 j hj).1, ?_⟩, fun j q hj hq => ?_, h3.1, fun j q j' q' hj hq hj' hq' e => ?_⟩
  · obtain ⟨b1, b2, b3, b4, b5⟩ := t3 j hj
    refine ⟨b1.e (hA j), by rw [e8]; exact b2, ?_, ?_, fun q hq => ?_⟩
    · by_cases w : j = i
      · subst w; rw [hni, p10, va_up_self]
      · rw [hn j w, p10, va_up_ne _ _ w]; exact b3
    · by_cases w : j = i
      · subst w; omega
      · rw [hn j w]; exact b4
    · rcases hnd j q hj hq with w | ⟨rfl, rfl⟩
      · exact (b5 q w).e (hD _ (hne j q hj w)) (hX _)
      · exact hdv
  · rw [e8, e9, p10, va_up_ne _ _ (by omega)]; exact z.1 j j1 j2
  · rw [e14]
    refine z.2 j q j1 k1 (fun w => ?_)
    have := hq w
    by_cases w2 : j = i
    · subst w2; rw [hni] at this; omega
    · rw [hn j w2] at this; exact this
  · by_cases w : j = i
    · subst w
      refine ⟨v, ch, va_up df k (some g.2), ⟨ha.1, ha2.2.1, ?_⟩, ?_, ?_, ?_, fun q hq => ?_⟩
      · unfold aDep
        rw [hp_up_1, if_pos rfl, nma_e (t3 j hj).1 (hA j), p10, va_up_self, e8, e9]
      · rw [avr_e (t3 j hj).1 (hA j)]; exact (hv.ext he).kp kp (by decide)
      · rw [tl_e (hA j), e6]; exact (hch.ext he).kp kp (by decide)
      · unfold aDep
        rw [hp_up_1, if_neg (by omega), hp_up_1, if_pos rfl]
      · rw [hni] at hq
        by_cases w2 : q = k
        · subst w2; rw [va_up_self, va_up_self]
        · rw [va_up_ne _ _ w2, va_up_ne _ _ (by omega)]; exact hdf q (by omega)
    · exact (((h1 j hj).2.ext he).kp kp (by decide) (by decide) (Or.inr (fun e => w (h3.1 j i hj hi e)))).e (t3 j hj).1 (hA j) (by rw [e8]) (by rw [e9]) (by rw [p10, va_up_ne _ _ w]) (fun q hq => va_up_ne _ _ (hne j q hj hq))
  · rcases hnd j q hj hq with w | ⟨rfl, rfl⟩
    · rw [va_up_ne _ _ (hne j q hj w)]
      exact (((h2 j q hj w).ext he).kp kp (by decide) (by decide) (Or.inl (by decide))).e ((t3 j hj).2.2.2.2 q w) (hD _ (hne j q hj w)) (hX _)
    · rw [va_up_self]
      have ne1 : g.2 ≠ ga j := by omega
      refine ⟨hlo, by show g.2 + 1 < g.2 + 2; omega, r, fun _ => 0, ?_, ?_, ?_, fun e he => ?_⟩
      · rw [kp.obj hlo (by rw [nDep_2]; omega) nDep_o (Or.inl (by decide)), edq, nmv_congr (c := dtx S' (j * 6 + q)) (d := c) (fun t ht => etx t (by omega)), eop, e140]
      · rw [edl, edq, zi_congr (VrP_congr (c := dtx S' (j * 6 + q)) (d := c) (fun t _ t2 => etx t t2))]
        exact ((hr.ext he).kp kp (by decide) (by decide)).congr fun P => HdP_congr (fun t _ t2 => etx t t2) ((RgP_congr (fun t _ t2 => etx t t2)).mpr hL.2.2) P
      · exact kp.arr (by omega) (by rw [nDep_2]; omega) nDep_a (Or.inl (by decide))
      · rw [e140, show (0 : Int32).toNatClampNeg = 0 from rfl] at he; omega
  · rcases hnd j q hj hq with w | ⟨rfl, rfl⟩ <;> rcases hnd j' q' hj' hq' with w' | ⟨rfl, rfl⟩
    · rw [va_up_ne _ _ (hne j q hj w), va_up_ne _ _ (hne j' q' hj' w')] at e
      exact h3.2 j q j' q' hj w hj' w' e
    · rw [va_up_ne _ _ (hne j q hj w), va_up_self] at e
      exact absurd e (hgd j q hj w)
    · rw [va_up_self, va_up_ne _ _ (hne j' q' hj' w')] at e
      exact absurd e.symm (hgd j' q' hj' w')
    · exact ⟨rfl, rfl⟩
section CALL7
variable {x : Nat} {h : hp_H}
theorem ok_depend (hI : Inv x h) (y op : Int32) (ho : op = 0 ∨ op = 1) : CallOk x (fun h x => f_LL_depend h x y op) (fun h x => f_MD_depend h x y op) h := by
  obtain ⟨g, c, A, s, d, E, S, ga, gd, N, R, len, rfl, geo, hm, hl, ht, hr⟩ := hI
  obtain ⟨hlen, h0, hc⟩ := hl
  have hN := ht.1.1
  have hcc : ∀ j, j < len → S.2 1 j = c j := fun j hj => (hc j hj).1.symm
  obtain ⟨nm, b1, e1, p1, v1, w1⟩ := cl_nc (g := g) (x := x) (n := nI N) (u := S.1 17) (c := c) (A := A) (s := s) (d := d) (E := E) hlen
  obtain ⟨g1, o, b2, e2, T1, T2, T3, T4⟩ := cl_takeRange (g := g) (x := x) (n := nI N) (u := S.1 17) (c := c) (A := A) (s := s) (d := d) (E := E) (lo := x + 35) (a := b1) (by omega) geo.1 hlen p1
  have e4 := cl_finish (g := g1) (x := x) (n := nI N) (u := S.1 17) (c := c) (A := A) (s := s) (d := d) (E := E) hlen T2
  obtain ⟨a1, a2⟩ := cl_artAt (x := x) (g := g1) (l := 0) (p := 0) (u := S.1 17) (c := c) (s := s) (d := d) (E := E) hN (fun i hi => (ht.2.2.1 i hi).1) y
  have md := fun h => md_depend h (x + 14) hlen h0 ht.1.2.1 hN y op
  rw [LineR_congr hcc] at md
  have hLiff : LineR c len ↔ (nm ≠ 0 ∧ (∃ r, o = some r) ∧ b2 = len) := by
    constructor
    · intro hL
      obtain ⟨n0, n1, n2⟩ := w1 ⟨hL.1, hL.2.1⟩
      obtain ⟨r, r1, r2⟩ := T4 (by rw [n1]; exact hL.2.2)
      exact ⟨n0, ⟨r, r1⟩, r2⟩
    · rintro ⟨n0, ⟨r, r1⟩, r2⟩
      have k := v1 n0
      have k3 := (T3 r r1 r2).1
      rw [(w1 k).2.1] at k3
      exact ⟨k.1, k.2, k3⟩
  by_cases hex : ∃ i, i < N ∧ y = nI i
  · obtain ⟨i, i1, i2⟩ := hex
    have ht1 := ht.ext (T1.mono (lo := x + 35))
    obtain ⟨v, ch, df, q1, q2, q3, q4, q5⟩ := (ht1.2.2.1 i i1).2
    have hlo := q1.1
    have hgi := q1.2.1
    have ec : (cb g1 x 0 0 (nI N) (S.1 17) c A s d E).1 (ga i) = some (.inr (3, [.int (nI i), .long (nmv (fun j => S.2 6 (i * 21 + j)) (tc S i) 0 0), .ref v, .ref ch, .ref (ga i + 1), .int (S.2 10 i), .int (S.2 9 i), .int (S.2 8 i)])) := by rw [cb_out (by omega)]; exact q1.2.2
    have e5 : hp_fI (cb g1 x 0 0 (nI N) (S.1 17) c A s d E) (some (ga i)) 3 5 = some (S.2 10 i) := hp_fI_of ec rfl
    have hx : f_LL_depend (cb g x (nI len) 0 (nI N) (S.1 17) c A s d E) x y op = (if lg_cmp nm 0 = 0 then some (-3, cb g1 x 0 0 (nI N) (S.1 17) c A s d E) else if o = none then some (-3, cb g1 x 0 0 (nI N) (S.1 17) c A s d E) else if zi (b2 = len) = 0 then some (-3, cb g1 x 0 0 (nI N) (S.1 17) c A s d E) else if S.2 10 i < 6 then
          (f_DP_init (cb (hp_push g1 (.inr (4, [.long 0, .null, .int 0, .null, .int 0]))) x 0 0 (nI N) (S.1 17) c A s d E) g1.2 nm o op).bind fun q33 =>
            (hp_o q33 (some (ga i)) 3).bind fun b37 =>
            (f_AR_addDependency q33 b37 (some g1.2)).bind fun q35 =>
            (hp_fI q35 (some (ga i)) 3 5).bind fun x39 =>
            some ((x39 - (1 : Int32)), q35) else some (-2, cb g1 x 0 0 (nI N) (S.1 17) c A s d E)) := by
      unfold f_LL_depend
      simp only [cb_r0, cb_o1, cb_o0, Option.bind_some, e1, e2, e4, a2 i i1 i2, e5, cb_push (show x + 14 ≤ g1.2 by omega), cb_2]
      rw [if_neg (by simp)]
    by_cases hL : LineR c len
    · obtain ⟨n0, n1, n2⟩ := w1 ⟨hL.1, hL.2.1⟩
      obtain ⟨r, r1, r2⟩ := T4 (by rw [n1]; exact hL.2.2)
      have RR := (T3 r r1 r2).2
      rw [n1] at RR
      rw [if_neg (fun z => n0 ((lg_cmp_eq _ _).mp z)), r1, if_neg (by simp), if_neg (fun z => zi_eq0.mp z r2)] at hx
      obtain ⟨-, -, k3, k4, -⟩ := ht.1.2.2 i i1
      obtain ⟨k, hk⟩ : ∃ k, ndc S i = k := ⟨_, rfl⟩
      rw [hk] at k3 k4
      by_cases h6 : k = 6
      · rw [k3, h6, if_neg (show ¬ nI 6 < 6 by decide)] at hx
        obtain ⟨S', q1, q2⟩ := (md (cb g1 x 0 0 (nI N) (S.1 17) c A s d E)).2.2.1 i i1 i2 hL (by rw [k3, h6])
        exact ok_tk hx T1 hm ⟨S', q1, q2.tk⟩ geo rfl ht hr
      · have hk6 : k < 6 := by omega
        have hx14 : x + 14 ≤ g1.2 := by omega
        have ext := nDep_e (g := g1) (nm := nmv c (fx c 58 0 len) 0 0) (r := r) (op := op)
        have q1' := q1.ext (ext.mono (lo := x + 35))
        have q4' : (nDep g1 (nmv c (fx c 58 0 len) 0 0) r op).1 (ga i + 1) = some (.inl (5, 6, .inr (.inr (.inr (.inr df))))) := (ext.2 _ (Nat.zero_le _) hgi).trans q4
        have oc := q1'.2.2
        rw [k3] at oc
        rw [k3, if_pos (show nI k < (6 : Int32) from nI_lt (b := 6) hk6 (by decide)), n2, cl_newDep hx14 ho, Option.bind_some, hp_o_of (by rw [cb_out (by omega)]; exact oc), Option.bind_some, cl_addDep (by omega) hk6 oc q4' nDep_o hx14, Option.bind_some, hp_fI_of (x := nI (k + 1)) (fs := [.int (nI i), .long (nmv (fun j => S.2 6 (i * 21 + j)) (tc S i) 0 0), .ref v, .ref ch, .ref (ga i + 1), .int (nI (k + 1)), .int (S.2 9 i), .int (S.2 8 i)]) (by rw [cb_out (by omega)]; unfold aDep; rw [hp_up_1, if_pos rfl]) rfl, Option.bind_some, nI_pred] at hx
        obtain ⟨S', m1, m2⟩ := (md (cb (aDep (nDep g1 (nmv c (fx c 58 0 len) 0 0) r op) (ga i) [.int (nI i), .long (nmv (fun j => S.2 6 (i * 21 + j)) (tc S i) 0 0), .ref v, .ref ch, .ref (ga i + 1), .int (nI (k + 1)), .int (S.2 9 i), .int (S.2 8 i)] (va_up df k (some g1.2))) x 0 0 (nI N) (S.1 17) c A s d E)).2.2.2 i k i1 i2 hL hk6 k3
        have hmd : MdC (aDep (nDep g1 (nmv c (fx c 58 0 len) 0 0) r op) (ga i) [.int (nI i), .long (nmv (fun j => S.2 6 (i * 21 + j)) (tc S i) 0 0), .ref v, .ref ch, .ref (ga i + 1), .int (nI (k + 1)), .int (S.2 9 i), .int (S.2 8 i)] (va_up df k (some g1.2))) (x + 14) S := ((hm.ext (by omega) (T1.trans ext)).up (by omega)).up (by omega)
        refine ok_mk (len := 0) (S := S) (S' := S') (R := R) (ga := ga) (gd := va_up gd (i * 6 + k) g1.2) hx hmd m1 ⟨by show x + 35 ≤ g1.2 + 2; omega, geo.2⟩ m2.1.2.2.1 (LnC.z m2.1.1) (ht1.dep (by omega) i1 hk6 k3 ho hlen m2 hcc hL RR q1 q2 q3 q4 ?_) (hr.same m2.1.2.2.2 (fun e _ => ⟨by rw [m2.2.1 20 (by decide) (by decide) (by decide) (by decide) (by decide)], by rw [m2.2.1 21 (by decide) (by decide) (by decide) (by decide) (by decide)], by rw [m2.2.1 22 (by decide) (by decide) (by decide) (by decide) (by decide)]⟩))
        exact q5
    · have hx2 : f_LL_depend (cb g x (nI len) 0 (nI N) (S.1 17) c A s d E) x y op = some (-3, cb g1 x 0 0 (nI N) (S.1 17) c A s d E) := by
        rw [hx]
        by_cases c1 : nm = 0
        · rw [if_pos ((lg_cmp_eq _ _).mpr c1)]
        · rw [if_neg (fun z => c1 ((lg_cmp_eq _ _).mp z))]
          by_cases c2 : o = none
          · rw [if_pos c2]
          · rw [if_neg c2]
            by_cases c4 : b2 = len
            · exact absurd (hLiff.mpr ⟨c1, Option.ne_none_iff_exists'.mp c2, c4⟩) hL
            · rw [if_pos (zi_eq0.mpr c4)]
      obtain ⟨S', q1, q2⟩ := (md (cb g1 x 0 0 (nI N) (S.1 17) c A s d E)).2.1 i i1 i2 hL
      exact ok_tk hx2 T1 hm ⟨S', q1, q2.tk⟩ geo rfl ht hr
  · have hx2 : f_LL_depend (cb g x (nI len) 0 (nI N) (S.1 17) c A s d E) x y op = some (-1, cb g1 x 0 0 (nI N) (S.1 17) c A s d E) := by
      unfold f_LL_depend
      simp only [cb_r0, cb_o1, cb_o0, Option.bind_some, e1, e2, e4, a1 hex]
      rw [if_pos trivial]
    obtain ⟨S', q1, q2⟩ := (md (cb g1 x 0 0 (nI N) (S.1 17) c A s d E)).1 hex
    exact ok_tk hx2 T1 hm ⟨S', q1, q2.tk⟩ geo rfl ht hr
end CALL7
