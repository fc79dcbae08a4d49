/-! ===== publish on both sides ===== -/
section PUB
variable {g : hp_H} {x : Nat} {l p n u : Int32} {c : Nat → Int32} {A : Nat → Option Nat} {s d : Nat} {E : Nat → ES} {lo : Nat}
/-- a field of an object that is being made -/
theorem cb_sx {a ci k : Nat} {fs : List Value} {v : Value} (hx : x + 14 ≤ a) (hk : k < fs.length) : hp_s (cb (hp_up g a (.inr (ci, fs))) x l p n u c A s d E) (some a) ci k v = some (cb (hp_up g a (.inr (ci, fs.set k v))) x l p n u c A s d E) := by
  rw [cb_so hx (fs := fs) (by rw [hp_up_1, if_pos rfl]) hk, hp_up_up]
theorem cl_copy {len : Nat} (hlo : x + 14 ≤ lo) (hg : lo ≤ g.2) (hl : len ≤ 40) (hf : ∀ j, j < len → fits .char (.int (c j)) = true) : ∃ g' ch, f_LN_copy (cb g x (nI len) p n u c A s d E) (x + 1) = some (some ch, (cb g' x (nI len) p n u c A s d E)) ∧ Ext 0 g g' ∧ Chat lo g' ch len c := by
  have hx : x + 14 ≤ g.2 := Nat.le_trans hlo hg
  have hn : hp_nn (nI len) 40 = some len := by
    unfold hp_nn
    rw [nI_clamp (by omega), if_neg (fun z => z.elim (nI_pos (by omega)) (by omega))]
  refine ⟨hp_push g (.inl (2, len, .inl (va_cpy c (fun _ => 0) 0 0 len))), g.2, ?_, Ext.push _, hg, by rw [hp_push_2]; omega, _, by rw [hp_push_1, if_pos rfl], fun j hj => ?_⟩
  · unfold f_LN_copy
    simp only [cb_l1, Option.bind_some, hn, cb_push hx, cb_l0, cb_2]
    have h0 : hp_a (cb (hp_push g (.inl (2, len, .inl (fun _ => 0)))) x (nI len) p n u c A s d E) (some (x + 2)) 2 = some (x + 2, 40, .inl c) := by
      simp [hp_a, cb_c2]
    have h1 : hp_a (cb (hp_push g (.inl (2, len, .inl (fun _ => 0)))) x (nI len) p n u c A s d E) (some g.2) 2 = some (g.2, len, .inl (fun _ => 0)) := by
      simp [hp_a, cb_out hx, hp_push_1]
    unfold hp_cpy
    rw [h0, h1]
    simp only [Option.bind_some, hp_cI]
    have z0 : (0 : Int32).toNatClampNeg = 0 := rfl
    rw [z0, nI_clamp (by omega), if_pos ⟨⟨by decide, by decide, nI_pos (by omega), by omega, by omega⟩, fun i hi => by rw [Nat.zero_add]; exact hf i hi⟩, Option.bind_some, cb_hup hx, hp_up_push]
  · unfold va_cpy
    rw [if_pos ⟨Nat.zero_le _, by omega⟩, Nat.zero_add, Nat.sub_zero]
/-- a new artifact object and its array of dependencies -/
def nArt (g : hp_H) (num : Int32) (nm : Int64) (v ch : Nat) : hp_H := hp_up (hp_push (hp_push g (.inr (3, [.int 0, .long 0, .null, .null, .null, .int 0, .int 0, .int 0]))) (.inl (5, 6, .inr (.inr (.inr (.inr (fun _ => none))))))) g.2 (.inr (3, [.int num, .long nm, .ref v, .ref ch, .ref (g.2 + 1), .int 0, .int 0, .int 0]))
theorem nArt_2 {num : Int32} {nm : Int64} {v ch : Nat} : (nArt g num nm v ch).2 = g.2 + 2 := rfl
theorem nArt_o {num : Int32} {nm : Int64} {v ch : Nat} : (nArt g num nm v ch).1 g.2 = some (.inr (3, [.int num, .long nm, .ref v, .ref ch, .ref (g.2 + 1), .int 0, .int 0, .int 0])) := by
  unfold nArt; rw [hp_up_1, if_pos rfl]
theorem nArt_a {num : Int32} {nm : Int64} {v ch : Nat} : (nArt g num nm v ch).1 (g.2 + 1) = some (.inl (5, 6, .inr (.inr (.inr (.inr (fun _ => none)))))) := by
  unfold nArt; rw [hp_up_1, if_neg (by omega), hp_push_1, hp_push_2, if_pos rfl]
theorem nArt_e {num : Int32} {nm : Int64} {v ch : Nat} : Ext 0 g (nArt g num nm v ch) := ⟨by rw [nArt_2]; omega, fun q _ q2 => by
  unfold nArt; rw [hp_up_1, if_neg (by omega), hp_push_1, hp_push_2, if_neg (by omega), hp_push_1, if_neg (by omega)]⟩
theorem cl_newArt {num : Int32} {nm : Int64} {v ch : Nat} (hx : x + 14 ≤ g.2) : f_AR_init (cb (hp_push g (.inr (3, [.int 0, .long 0, .null, .null, .null, .int 0, .int 0, .int 0]))) x l p n u c A s d E) g.2 num nm (some v) (some ch) = some (cb (nArt g num nm v ch) x l p n u c A s d E) := by
  unfold f_AR_init
  rw [cb_push (by rw [hp_push_2]; omega), Option.bind_some, cb_so (fs := [.int 0, .long 0, .null, .null, .null, .int 0, .int 0, .int 0]) hx (by rw [hp_push_1, hp_push_2, if_neg (by omega), hp_push_1, if_pos rfl]) (by simp), Option.bind_some]
  rw [cb_sx hx (by simp), Option.bind_some, cb_sx hx (by simp), Option.bind_some, cb_sx hx (by simp), Option.bind_some, cb_sx hx (by simp), Option.bind_some, cb_sx hx (by simp), Option.bind_some, cb_sx hx (by simp), Option.bind_some, cb_sx hx (by simp), Option.bind_some]
  rfl
end PUB
/-- the tables with one artifact more -/
theorem TbC.pub {lo : Nat} {g : hp_H} {A : Nat → Option Nat} {S S' : MS} {ga gd : Nat → Nat} {N len q : Nat} {c : Nat → Int32} {v ch : Nat} (h : TbC lo g A S ga gd N) (hlo : lo ≤ g.2) (hN : N < 20) (hP : PubT S S' N len q) (hc : ∀ j, j < len → S.2 1 j = c j) (hK : NmP c 0 q ∧ q + 1 ≤ len ∧ VrP c (q + 1) len) (hv : Vat lo g v (prt (sh c (q + 1)) (len - (q + 1)))) (hch : Chat lo g ch len c) : TbC lo (nArt g (nI N) (nmv c q 0 0) v ch) (va_up A N (some g.2)) S' (va_up ga N g.2) gd (N + 1) := by
  obtain ⟨⟨t1, t2, t3⟩, z, h1, h2, h3⟩ := h
  obtain ⟨⟨p0, p4, p17, p18⟩, ps, p5, p7, p6, p6'⟩ := hP
  have e8 := ps 8 (by decide) (by decide) (by decide) (by decide) (by decide) (by decide)
  have e9 := ps 9 (by decide) (by decide) (by decide) (by decide) (by decide) (by decide)
  have e10 := ps 10 (by decide) (by decide) (by decide) (by decide) (by decide) (by decide)
  have e11 := ps 11 (by decide) (by decide) (by decide) (by decide) (by decide) (by decide)
  have e12 := ps 12 (by decide) (by decide) (by decide) (by decide) (by decide) (by decide)
  have e13 := ps 13 (by decide) (by decide) (by decide) (by decide) (by decide) (by decide)
  have e14 := ps 14 (by decide) (by decide) (by decide) (by decide) (by decide) (by decide)
  have e15 := ps 15 (by decide) (by decide) (by decide) (by decide) (by decide) (by decide)
  have e16 := ps 16 (by decide) (by decide) (by decide) (by decide) (by decide) (by decide)
  have hA : ∀ i, i < N → ArtE S S' i := fun i hi => ⟨by rw [p5, va_up_ne _ _ (by omega)], by rw [p7, va_up_ne _ _ (by omega)], fun j hj => p6 _ (Or.inl (by omega))⟩
  have hD : ∀ D, DepE S S' D := fun D => ⟨by rw [e11], by rw [e12], fun _ _ => by rw [e13]⟩
  have hX : ∀ D, ExcQ S S' D := fun D => ⟨by rw [e14], fun _ _ => ⟨by rw [e15], fun _ _ => by rw [e16]⟩⟩
  have hn : ∀ i, ndc S' i = ndc S i := fun i => by unfold ndc; rw [e10]
  have zN := z.1 N (Nat.le_refl _) hN
  have hnN : ndc S' N = 0 := by rw [hn]; unfold ndc; rw [zN.2.2]; rfl
  have q8 := hK.1.2.1
  have q12 := hK.2.2.2.1
  have etl : tl S' N = len := by unfold tl; rw [p5, va_up_self, nI_clamp (by omega)]
  have etc : tc S' N = q := by unfold tc; rw [p7, va_up_self, nI_clamp (by omega)]
  have etx : ∀ j, j < len → S'.2 6 (N * 21 + j) = c j := fun j hj => (p6' j hj).trans (hc j hj)
  have he : Ext lo g (nArt g (nI N) (nmv c q 0 0) v ch) := nArt_e.mono
  have hav : ArtV S' N := by
    unfold ArtV ArtT
    rw [etl, etc]
    refine ⟨⟨hN, by rw [p5, va_up_self], by rw [p7, va_up_self], by omega, by omega⟩, (NmP_congr (fun k _ k2 => (etx k (by omega)).symm)).mp hK.1, (VrP_congr (fun k _ k2 => (etx k (by omega)).symm)).mp hK.2.2⟩
  refine ⟨⟨by omega, p4, fun i hi => ?_⟩, ⟨fun i i1 i2 => ?_, fun i k i1 k1 hk => ?_⟩, fun i hi => ?_, fun i k hi hk => ?_, fun i j hi hj hij => ?_, fun i k j q hi hk hj hq => ?_⟩
  · rcases Nat.lt_or_ge i N with w | w
    · obtain ⟨a1, a2, a3, a4, a5⟩ := t3 i w
      refine ⟨a1.e (hA i w), by rw [e8]; exact a2, by rw [e10, hn]; exact a3, by rw [hn]; exact a4, fun k hk => ?_⟩
      rw [hn] at hk
      exact (a5 k hk).e (hD _) (hX _)
    · have : i = N := by omega
      subst this
      exact ⟨hav, Or.inl (by rw [e8]; exact zN.1), by rw [hnN, e10]; exact zN.2.2, by omega, fun k hk => by omega⟩
  · rw [e8, e9, e10]; exact z.1 i (by omega) i2
  · rw [hn] at hk; rw [e14]; exact z.2 i k i1 k1 (fun w => hk (by omega))
  · rcases Nat.lt_or_ge i N with w | w
    · rw [va_up_ne _ _ (by omega), va_up_ne _ _ (by omega)]
      exact ⟨(h1 i w).1, ((h1 i w).2.ext he).e (t3 i w).1 (hA i w) (by rw [e8]) (by rw [e9]) (by rw [e10]) (fun _ _ => rfl)⟩
    · have : i = N := by omega
      subst this
      rw [va_up_self, va_up_self]
      refine ⟨rfl, v, ch, fun _ => none, ⟨hlo, by rw [nArt_2]; omega, ?_⟩, ?_, ?_, nArt_a, fun k hk => by omega⟩
      · rw [nArt_o, etc, nmv_congr (c := fun j => S'.2 6 (i * 21 + j)) (d := c) (fun k hk => etx k (by omega)), e8, e9, e10, zN.1, zN.2.1, zN.2.2]
      · have : prt (avr S' i (tc S' i)) (vl S' i) = prt (sh c (q + 1)) (len - (q + 1)) := by
          unfold vl
          rw [etl, etc]
          exact prt_congr fun j hj => etx (q + 1 + j) (by omega)
        rw [this]
        exact hv.ext he
      · rw [etl]
        obtain ⟨c1, c2, f, c3, c4⟩ := hch.ext he
        exact ⟨c1, c2, f, c3, fun j hj => (c4 j hj).trans (etx j hj).symm⟩
  · rcases Nat.lt_or_ge i N with w | w
    · rw [hn] at hk
      exact ((h2 i k w hk).ext he).e ((t3 i w).2.2.2.2 k hk) (hD _) (hX _)
    · have : i = N := by omega
      subst this
      omega
  · have fresh : ∀ i, i < N → ga i ≠ g.2 := fun i w e => by
      obtain ⟨v', ch', df, a1, -⟩ := (h1 i w).2
      have := a1.2.1
      omega
    rcases Nat.lt_or_ge i N with w | w <;> rcases Nat.lt_or_ge j N with w' | w'
    · rw [va_up_ne _ _ (by omega), va_up_ne _ _ (by omega)] at hij
      exact h3.1 i j w w' hij
    · have : j = N := by omega
      subst this
      rw [va_up_ne _ _ (by omega), va_up_self] at hij
      exact absurd hij (fresh i w)
    · have : i = N := by omega
      subst this
      rw [va_up_self, va_up_ne _ _ (by omega)] at hij
      exact absurd hij.symm (fresh j w')
    · omega
  · have w : i < N := by
      rcases Nat.lt_or_ge i N with w | w
      · exact w
      · have : i = N := by omega
        subst this; omega
    have w' : j < N := by
      rcases Nat.lt_or_ge j N with w' | w'
      · exact w'
      · have : j = N := by omega
        subst this; omega
    rw [hn] at hk hq
    exact h3.2 i k j q w hk w' hq
/-- the picking of an artifact by a name and a range -/
theorem cl_pickS {x : Nat} {g : hp_H} {l p u : Int32} {c : Nat → Int32} {A : Nat → Option Nat} {s d : Nat} {E : Nat → ES} {S : MS} {ga gd : Nat → Nat} {N r q : Nat} {w : Int32} {Hd : (Nat → Int64) → Prop} {t : Nat → Int32} (ht : TbC (x + 35) g A S ga gd N) (hr : Rat (x + 35) g r w Hd) (hq : NmP t 0 q) : f_LL_pickFor (cb g x l p (nI N) u c A s d E) x (nmv t q 0 0) (some r) = some ((pkF (fun i => S.2 8 i = 0 ∧ NmEq S i t q ∧ Hd (prt (avr S i (tc S i)) (vl S i))) (abP S) N 0 none).map ga, (cb g x l p (nI N) u c A s d E)) := by
  have hb : Ext (x + 35) g (cb g x l p (nI N) u c A s d E) := Ext.cbo (by omega)
  have hN := ht.1.1
  rw [cl_pick (lo := x + 35) (nm := fun i => nmv (fun j => S.2 6 (i * 21 + j)) (tc S i) 0 0) (rt := fun i => S.2 8 i) (PV := fun i => prt (avr S i (tc S i)) (vl S i)) ht.1.1 cb_r2 cb_r1 (fun i hi => by rw [hp_aR_at cb_c3 (by omega) (by decide), (ht.2.2.1 i hi).1]) (fun i hi => by
    obtain ⟨v, ch, df, a1, a2, -⟩ := (ht.2.2.1 i hi).2
    exact ⟨nI i, v, ch, S.2 10 i, S.2 9 i, a1.ext hb, a2.ext hb⟩) (hr.ext hb)]
  congr 3
  refine pkF_congr (N := N) (fun i hi => ?_) (fun _ _ _ _ => Iff.rfl) N 0 none (by omega) (fun y z => by cases z)
  have hV := (ht.1.2.2 i hi).1
  have := nm_inj hV.2.1 hq
  have hco : S.2 7 i = nI (tc S i) := hV.1.2.2.1
  have hc21 := hV.len
  have q8 := hq.2.1
  constructor
  · rintro ⟨k1, k2, k3⟩
    obtain ⟨k4, k5⟩ := this.mp k2
    exact ⟨k1, ⟨by rw [hco, k4], fun k hk => k5 k (by omega)⟩, k3⟩
  · rintro ⟨k1, ⟨k2, k4⟩, k3⟩
    have e : tc S i = q := (nI_eq (by omega) (by omega)).mp (hco.symm.trans k2)
    exact ⟨k1, this.mpr ⟨e, fun k hk => k4 k (by omega)⟩, k3⟩
