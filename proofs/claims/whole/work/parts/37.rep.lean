/-! ===== the class's state against the reference's ===== -/
theorem prt_congr {v w : Nat → Int32} {N : Nat} (h : ∀ j, j < N → v j = w j) : prt v N = prt w N := funext fun p => pn_congr h p
theorem HdP_congr {c d : Nat → Int32} {a n : Nat} (h : ∀ k, a ≤ k → k < n → c k = d k) (hr : RgP c a n) (P : Nat → Int64) : HdP c a n P ↔ HdP d a n P := by
  unfold HdP
  rw [VrP_congr h]
  by_cases hV : VrP d a n
  · rw [prt_congr (N := n - a) (v := sh c a) (w := sh d a) (fun j hj => h (a + j) (by omega) (by omega))]
    exact ⟨fun z => z.elim Or.inl (fun z => absurd hV z.1), fun z => z.elim Or.inl (fun z => absurd hV z.1)⟩
  · rcases hr with hr | ⟨h3, -⟩
    · exact absurd ((VrP_congr h).mp hr) hV
    have e : fx c 44 a (n - a) = fx d 44 a (n - a) := fx_congr (fun k k1 k2 => h k k1 (by omega))
    obtain ⟨g1, g2, -, -⟩ := fx_spec d 44 (n - a) a
    rw [e, h a (Nat.le_refl _) (by omega), h (n - 1) (by omega) (by omega), prt_congr (N := n - a) (v := sh c a) (w := sh d a) (fun j hj => h (a + j) (by omega) (by omega)), prt_congr (N := n - 1 - (a + 1)) (v := sh c (a + 1)) (w := sh d (a + 1)) (fun j hj => h (a + 1 + j) (by omega) (by omega)), prt_congr (N := fx d 44 a (n - a) - (a + 1)) (v := sh c (a + 1)) (w := sh d (a + 1)) (fun j hj => h (a + 1 + j) (by omega) (by omega)), prt_congr (N := n - 1 - (fx d 44 a (n - a) + 1)) (v := sh c (fx d 44 a (n - a) + 1)) (w := sh d (fx d 44 a (n - a) + 1)) (fun j hj => h (fx d 44 a (n - a) + 1 + j) (by omega) (by omega))]
theorem LineR_congr {c d : Nat → Int32} {len : Nat} (h : ∀ k, k < len → c k = d k) : LineR c len ↔ LineR d len := by
  unfold LineR
  have e : fx c 58 0 len = fx d 58 0 len := fx_congr (fun k _ k2 => h k (by omega))
  obtain ⟨g1, g2, -, -⟩ := fx_spec d 58 len 0
  rw [e, NmP_congr (fun k _ k2 => h k (by omega)), RgP_congr (fun k _ k2 => h k k2)]
/-- artifact i has one text in both -/
def ArtE (S S' : MS) (i : Nat) : Prop := S'.2 5 i = S.2 5 i ∧ S'.2 7 i = S.2 7 i ∧ ∀ j, j < 21 → S'.2 6 (i * 21 + j) = S.2 6 (i * 21 + j)
/-- dependency D has one text in both -/
def DepE (S S' : MS) (D : Nat) : Prop := S'.2 11 D = S.2 11 D ∧ S'.2 12 D = S.2 12 D ∧ ∀ j, j < 40 → S'.2 13 (D * 40 + j) = S.2 13 (D * 40 + j)
/-- dependency D has one set of exclusions in both -/
def ExcQ (S S' : MS) (D : Nat) : Prop := S'.2 14 D = S.2 14 D ∧ ∀ e, e < 3 → S'.2 15 (D * 3 + e) = S.2 15 (D * 3 + e) ∧ ∀ j, j < 8 → S'.2 16 ((D * 3 + e) * 8 + j) = S.2 16 ((D * 3 + e) * 8 + j)
section REP
variable {lo : Nat} {g g' : hp_H} {S S' : MS} {i D a : Nat}
theorem tl_e (h : ArtE S S' i) : tl S' i = tl S i := by unfold tl; rw [h.1]
theorem tc_e (h : ArtE S S' i) : tc S' i = tc S i := by unfold tc; rw [h.2.1]
theorem vl_e (h : ArtE S S' i) : vl S' i = vl S i := by unfold vl; rw [tl_e h, tc_e h]
theorem dl_e (h : DepE S S' D) : dl S' D = dl S D := by unfold dl; rw [h.2.1]
theorem ArtV.len (h : ArtV S i) : i < 20 ∧ tc S i < tl S i ∧ tl S i ≤ 21 := ⟨h.1.1, h.1.2.2.2.1, h.1.2.2.2.2⟩
theorem ArtV.e (h : ArtV S i) (e : ArtE S S' i) : ArtV S' i := by
  obtain ⟨b1, b2, b3⟩ := h.len
  obtain ⟨⟨h1, h2, h3, h4, h5⟩, h6, h7⟩ := h
  unfold ArtV ArtT
  rw [tl_e e, tc_e e, e.1, e.2.1]
  exact ⟨⟨h1, h2, h3, h4, h5⟩, (NmP_congr (fun k _ k2 => (e.2.2 k (by omega)).symm)).mp h6, (VrP_congr (fun k _ k2 => (e.2.2 k (by omega)).symm)).mp h7⟩
theorem avr_e (h : ArtV S i) (e : ArtE S S' i) : prt (avr S' i (tc S' i)) (vl S' i) = prt (avr S i (tc S i)) (vl S i) := by
  obtain ⟨b1, b2, b3⟩ := h.len
  rw [vl_e e, tc_e e]
  refine prt_congr fun j hj => ?_
  unfold vl at hj
  exact e.2.2 (tc S i + 1 + j) (by omega)
theorem nma_e (h : ArtV S i) (e : ArtE S S' i) : nmv (fun j => S'.2 6 (i * 21 + j)) (tc S' i) 0 0 = nmv (fun j => S.2 6 (i * 21 + j)) (tc S i) 0 0 := by
  obtain ⟨b1, b2, b3⟩ := h.len
  rw [tc_e e]
  exact nmv_congr fun k hk => e.2.2 k (by omega)
theorem DepV.txt (h : DepV S D) : D < 120 ∧ dl S D ≤ 40 ∧ LineR (dtx S D) (dl S D) := ⟨h.1.1, h.1.2.2.1, h.1.2.2.2.1⟩
theorem dtx_e (h : DepV S D) (e : DepE S S' D) : ∀ k, k < dl S D → dtx S' D k = dtx S D k := fun k hk => e.2.2 k (by have := h.txt; omega)
theorem dq_e (h : DepV S D) (e : DepE S S' D) : dq S' D = dq S D := by
  unfold dq
  rw [dl_e e]
  exact fx_congr fun k _ k2 => dtx_e h e k (by omega)
theorem DepV.ne (h : DepV S D) : ∃ ne, ne ≤ 3 ∧ S.2 14 D = nI ne ∧ ∀ e, e < ne → S.2 15 (D * 3 + e) = nI (xl S (D * 3 + e)) ∧ NmP (xtx S (D * 3 + e)) 0 (xl S (D * 3 + e)) := h.2
theorem DepV.e (h : DepV S D) (e : DepE S S' D) (q : ExcQ S S' D) : DepV S' D := by
  obtain ⟨⟨h1, h2, h3, h4, h5⟩, ne, n1, n2, n3⟩ := h
  have hd := dtx_e (S := S) (S' := S') (D := D) ⟨⟨h1, h2, h3, h4, h5⟩, ne, n1, n2, n3⟩ e
  refine ⟨⟨h1, ?_, ?_, ?_, ?_⟩, ne, n1, ?_, fun k hk => ?_⟩
  · rw [dl_e e, e.2.1]; exact h2
  · rw [dl_e e]; exact h3
  · rw [dl_e e]; exact (LineR_congr hd).mpr h4
  · rw [e.1]; exact h5
  · rw [q.1]; exact n2
  · have hx : xl S' (D * 3 + k) = xl S (D * 3 + k) := by unfold xl; rw [(q.2 k (by omega)).1]
    rw [hx, (q.2 k (by omega)).1]
    have := n3 k hk
    exact ⟨this.1, (NmP_congr (fun j _ j2 => ((q.2 k (by omega)).2 j (by have := this.2.2.1; omega)).symm)).mp this.2⟩
/-! the class's cells of an artifact, of a dependency -/
def Chat (lo : Nat) (g : hp_H) (ch n : Nat) (t : Nat → Int32) : Prop := lo ≤ ch ∧ ch < g.2 ∧ ∃ f : Nat → Int32, g.1 ch = some (.inl (2, n, .inl f)) ∧ ∀ j, j < n → f j = t j
def ArtC (lo : Nat) (g : hp_H) (S : MS) (gd : Nat → Nat) (i a : Nat) : Prop := ∃ (v ch : Nat) (df : Nat → Option Nat), Aat lo g a (nI i) (nmv (fun j => S.2 6 (i * 21 + j)) (tc S i) 0 0) v ch (S.2 10 i) (S.2 9 i) (S.2 8 i) ∧ Vat lo g v (prt (avr S i (tc S i)) (vl S i)) ∧ Chat lo g ch (tl S i) (fun j => S.2 6 (i * 21 + j)) ∧ g.1 (a + 1) = some (.inl (5, 6, .inr (.inr (.inr (.inr df))))) ∧ ∀ k, k < ndc S i → df k = some (gd (i * 6 + k))
def DepC (lo : Nat) (g : hp_H) (S : MS) (D a : Nat) : Prop := lo ≤ a ∧ a + 1 < g.2 ∧ ∃ (r : Nat) (xf : Nat → Int64), g.1 a = some (.inr (4, [.long (nmv (dtx S D) (dq S D) 0 0), .ref r, .int (S.2 11 D), .ref (a + 1), .int (S.2 14 D)])) ∧ Rat lo g r (zi (VrP (dtx S D) (dq S D + 1) (dl S D))) (HdP (dtx S D) (dq S D + 1) (dl S D)) ∧ g.1 (a + 1) = some (.inl (1, 3, .inr (.inl xf))) ∧ ∀ e, e < (S.2 14 D).toNatClampNeg → xf e = nmv (xtx S (D * 3 + e)) (xl S (D * 3 + e)) 0 0
theorem ArtC.e {gd gd' : Nat → Nat} (h : ArtC lo g S gd i a) (hv : ArtV S i) (e : ArtE S S' i) (h8 : S'.2 8 i = S.2 8 i) (h9 : S'.2 9 i = S.2 9 i) (h10 : S'.2 10 i = S.2 10 i) (hgd : ∀ k, k < ndc S i → gd' (i * 6 + k) = gd (i * 6 + k)) : ArtC lo g S' gd' i a := by
  obtain ⟨b1, b2, b3⟩ := hv.len
  obtain ⟨v, ch, df, h1, h2, ⟨h3, h4, f, h5, h6⟩, h7, h11⟩ := h
  have hn : ndc S' i = ndc S i := by unfold ndc; rw [h10]
  refine ⟨v, ch, df, ?_, ?_, ⟨h3, h4, f, ?_, fun j hj => ?_⟩, h7, fun k hk => ?_⟩
  · rw [nma_e hv e, h8, h9, h10]; exact h1
  · rw [avr_e hv e]; exact h2
  · rw [tl_e e]; exact h5
  · rw [tl_e e] at hj
    rw [h6 j hj]
    exact (e.2.2 j (by omega)).symm
  · rw [hn] at hk
    rw [h11 k hk, hgd k hk]
theorem DepC.e (h : DepC lo g S D a) (hv : DepV S D) (e : DepE S S' D) (q : ExcQ S S' D) : DepC lo g S' D a := by
  obtain ⟨h1, h2, r, xf, h3, h4, h5, h6⟩ := h
  obtain ⟨ne, n1, n2, n3⟩ := hv.ne
  have hd := dtx_e hv e
  have hL := hv.txt.2.2
  have hq : dq S D + 1 ≤ dl S D := by
    obtain ⟨f1, f2, -, -⟩ := fx_spec (dtx S D) 58 (dl S D) 0
    have := hL.2.1
    unfold dq
    omega
  refine ⟨h1, h2, r, xf, ?_, ?_, h5, fun k hk => ?_⟩
  · rw [dq_e hv e, nmv_congr (fun k hk => hd k (by omega)), e.1, q.1]; exact h3
  · rw [dq_e hv e, dl_e e, zi_congr (VrP_congr (fun k _ k2 => hd k k2))]
    exact h4.congr fun P => (HdP_congr (fun k _ k2 => (hd k k2).symm) hL.2.2 P).symm
  · rw [q.1] at hk
    rw [h6 k hk]
    rw [n2, nI_clamp (by omega)] at hk
    have hx : xl S' (D * 3 + k) = xl S (D * 3 + k) := by unfold xl; rw [(q.2 k (by omega)).1]
    rw [hx]
    exact nmv_congr fun j hj => ((q.2 k (by omega)).2 j (by have := (n3 k hk).2.2.1; omega)).symm
theorem Chat.ext {ch n : Nat} {t : Nat → Int32} (h : Chat lo g ch n t) (he : Ext lo g g') : Chat lo g' ch n t := by
  obtain ⟨h1, h2, f, h3, h4⟩ := h
  exact ⟨h1, Nat.lt_of_lt_of_le h2 he.1, f, (he.2 ch h1 h2).trans h3, h4⟩
theorem ArtC.ext {gd : Nat → Nat} (h : ArtC lo g S gd i a) (he : Ext lo g g') : ArtC lo g' S gd i a := by
  obtain ⟨v, ch, df, h1, h2, h3, h4, h5⟩ := h
  exact ⟨v, ch, df, h1.ext he, h2.ext he, h3.ext he, (he.2 (a + 1) (by have := h1.1; omega) h1.2.1).trans h4, h5⟩
theorem DepC.ext (h : DepC lo g S D a) (he : Ext lo g g') : DepC lo g' S D a := by
  obtain ⟨h1, h2, r, xf, h3, h4, h5, h6⟩ := h
  exact ⟨h1, Nat.lt_of_lt_of_le h2 he.1, r, xf, (he.2 a h1 (by omega)).trans h3, h4.ext he, (he.2 (a + 1) (by omega) h2).trans h5, h6⟩
/-- the cells stay, but an object of class k0 at a0 and its array of kind t0 behind it -/
def Kp2 (lo : Nat) (g g' : hp_H) (a0 k0 t0 : Nat) : Prop := g.2 ≤ g'.2 ∧ (∃ fs, g.1 a0 = some (.inr (k0, fs))) ∧ (∃ y, g.1 (a0 + 1) = some (.inl (t0, y))) ∧ ∀ q, lo ≤ q → q < g.2 → q ≠ a0 → q ≠ a0 + 1 → g'.1 q = g.1 q
variable {a0 k0 t0 : Nat}
/-- an object of another class, or another object -/
theorem Kp2.obj (h : Kp2 lo g g' a0 k0 t0) {k : Nat} {fs : List Value} (h1 : lo ≤ a) (h2 : a < g.2) (hc : g.1 a = some (.inr (k, fs))) (hk : k ≠ k0 ∨ a ≠ a0) : g'.1 a = some (.inr (k, fs)) := by
  obtain ⟨z1, ⟨f0, z2⟩, ⟨y0, z3⟩, z4⟩ := h
  refine (z4 a h1 h2 ?_ ?_).trans hc
  · intro e
    rcases hk with w | w
    · rw [e, z2] at hc
      have := Option.some.inj hc
      simp only [Sum.inr.injEq, Prod.mk.injEq] at this
      exact w this.1.symm
    · exact w e
  · intro e
    rw [e, z3] at hc
    have := Option.some.inj hc
    cases this
/-- an array behind another object, or of another kind -/
theorem Kp2.arr (h : Kp2 lo g g' a0 k0 t0) {t : Nat} {y : vp_A} (h1 : lo ≤ a) (h2 : a < g.2) (hc : g.1 a = some (.inl (t, y))) (hk : t ≠ t0 ∨ a ≠ a0 + 1) : g'.1 a = some (.inl (t, y)) := by
  obtain ⟨z1, ⟨f0, z2⟩, ⟨y0, z3⟩, z4⟩ := h
  refine (z4 a h1 h2 ?_ ?_).trans hc
  · intro e
    rw [e, z2] at hc
    have := Option.some.inj hc
    cases this
  · intro e
    rcases hk with w | w
    · rw [e, z3] at hc
      have := Option.some.inj hc
      simp only [Sum.inl.injEq, Prod.mk.injEq] at this
      exact w this.1.symm
    · exact w e
theorem Kp2.ne (h : Kp2 lo g g' a0 k0 t0) {k : Nat} {fs : List Value} (hc : g.1 a = some (.inr (k, fs))) (hk : k ≠ k0) : a ≠ a0 := by
  intro e
  obtain ⟨z1, ⟨f0, z2⟩, -⟩ := h
  rw [e, z2] at hc
  have := Option.some.inj hc
  simp only [Sum.inr.injEq, Prod.mk.injEq] at this
  exact hk this.1.symm
theorem Vat.kp {P : Nat → Int64} (hv : Vat lo g a P) (h : Kp2 lo g g' a0 k0 t0) (hk : 6 ≠ k0) : Vat lo g' a P := by
  obtain ⟨h1, h2, h3, f, h4, h5⟩ := hv
  exact ⟨h1, Nat.lt_of_lt_of_le h2 h.1, h.obj h1 (by omega) h3 (Or.inl hk), f, h.arr (by omega) h2 h4 (Or.inr (by have := h.ne h3 hk; omega)), h5⟩
theorem Rat.kp {w : Int32} {Hd : (Nat → Int64) → Prop} (hr : Rat lo g a w Hd) (h : Kp2 lo g g' a0 k0 t0) (hk : 6 ≠ k0) (hk5 : 5 ≠ k0) : Rat lo g' a w Hd := by
  obtain ⟨h1, h2, L, H, lp, hq, PL, PH, h3, h4, h5, h6⟩ := hr
  exact ⟨h1, Nat.lt_of_lt_of_le h2 h.1, L, H, lp, hq, PL, PH, h.obj h1 h2 h3 (Or.inl hk5), fun b hb => (h4 b hb).kp h hk, fun b hb => (h5 b hb).kp h hk, h6⟩
theorem Chat.kp {n : Nat} {t : Nat → Int32} (hc : Chat lo g a n t) (h : Kp2 lo g g' a0 k0 t0) (ht : 2 ≠ t0) : Chat lo g' a n t := by
  obtain ⟨h1, h2, f, h3, h4⟩ := hc
  exact ⟨h1, Nat.lt_of_lt_of_le h2 h.1, f, h.arr h1 h2 h3 (Or.inl ht), h4⟩
theorem ArtC.kp {gd : Nat → Nat} (hc : ArtC lo g S gd i a) (h : Kp2 lo g g' a0 k0 t0) (hk : 6 ≠ k0) (ht : 2 ≠ t0) (ha : 3 ≠ k0 ∨ a ≠ a0) : ArtC lo g' S gd i a := by
  obtain ⟨v, ch, df, h1, h2, h3, h4, h5⟩ := hc
  have ha' : a ≠ a0 := ha.elim (fun w => h.ne h1.2.2 w) id
  exact ⟨v, ch, df, ⟨h1.1, Nat.lt_of_lt_of_le h1.2.1 h.1, h.obj h1.1 (by have := h1.2.1; omega) h1.2.2 (Or.inr ha')⟩, h2.kp h hk, h3.kp h ht, h.arr (by have := h1.1; omega) h1.2.1 h4 (Or.inr (by omega)), h5⟩
theorem DepC.kp (hc : DepC lo g S D a) (h : Kp2 lo g g' a0 k0 t0) (hk : 6 ≠ k0) (hk5 : 5 ≠ k0) (ha : 4 ≠ k0 ∨ a ≠ a0) : DepC lo g' S D a := by
  obtain ⟨h1, h2, r, xf, h3, h4, h5, h6⟩ := hc
  have ha' : a ≠ a0 := ha.elim (fun w => h.ne h3 w) id
  exact ⟨h1, Nat.lt_of_lt_of_le h2 h.1, r, xf, h.obj h1 (by omega) h3 (Or.inr ha'), h4.kp h hk hk5, h.arr (by omega) h2 h5 (Or.inr (by omega)), h6⟩
end REP
/-- what is not in use is 0 -/
def Zro (S : MS) (N : Nat) : Prop := (∀ i, N ≤ i → i < 20 → S.2 8 i = 0 ∧ S.2 9 i = 0 ∧ S.2 10 i = 0) ∧ ∀ i k, i < 20 → k < 6 → (i < N → ndc S i ≤ k) → S.2 14 (i * 6 + k) = 0
/-- the tables: A the class's artifacts, ga and gd the places of artifacts and dependencies -/
def TbC (lo : Nat) (g : hp_H) (A : Nat → Option Nat) (S : MS) (ga gd : Nat → Nat) (N : Nat) : Prop := TabV S N ∧ Zro S N ∧ (∀ i, i < N → A i = some (ga i) ∧ ArtC lo g S gd i (ga i)) ∧ (∀ i k, i < N → k < ndc S i → DepC lo g S (i * 6 + k) (gd (i * 6 + k))) ∧ (∀ i j, i < N → j < N → ga i = ga j → i = j) ∧ ∀ i k j q, i < N → k < ndc S i → j < N → q < ndc S j → gd (i * 6 + k) = gd (j * 6 + q) → i = j ∧ k = q
/-- the line -/
def LnC (c : Nat → Int32) (S : MS) (len : Nat) : Prop := len ≤ 40 ∧ S.1 0 = nI len ∧ ∀ j, j < len → c j = S.2 1 j ∧ fits .char (.int (c j)) = true
/-- the result -/
def RsC (Z : ES) (S : MS) (ga : Nat → Nat) (N R : Nat) : Prop := ResV S N R ∧ Z.1 = nI R ∧ ∀ e, e < R → Z.2.1 e = some (ga (S.2 20 e).toNatClampNeg) ∧ Z.2.2.1 e = S.2 21 e ∧ (0 < e → Z.2.2.2.1 e = S.2 22 e)
section REP2
variable {lo : Nat} {g g' : hp_H} {A : Nat → Option Nat} {S S' : MS} {ga gd : Nat → Nat} {N R len : Nat} {c : Nat → Int32} {Z : ES}
theorem TbC.ext (h : TbC lo g A S ga gd N) (he : Ext lo g g') : TbC lo g' A S ga gd N :=
  ⟨h.1, h.2.1, fun i hi => ⟨(h.2.2.1 i hi).1, (h.2.2.1 i hi).2.ext he⟩, fun i k hi hk => (h.2.2.2.1 i k hi hk).ext he, h.2.2.2.2⟩
/-- the tables say the same -/
theorem TbC.same (h : TbC lo g A S ga gd N) (h4 : S'.1 4 = S.1 4) (hs : ∀ k, 5 ≤ k → k ≤ 16 → S'.2 k = S.2 k) : TbC lo g A S' ga gd N := by
  obtain ⟨⟨t1, t2, t3⟩, z, h1, h2, h3⟩ := h
  have e5 := hs 5 (by decide) (by decide)
  have e6 := hs 6 (by decide) (by decide)
  have e7 := hs 7 (by decide) (by decide)
  have e8 := hs 8 (by decide) (by decide)
  have e9 := hs 9 (by decide) (by decide)
  have e10 := hs 10 (by decide) (by decide)
  have e11 := hs 11 (by decide) (by decide)
  have e12 := hs 12 (by decide) (by decide)
  have e13 := hs 13 (by decide) (by decide)
  have e14 := hs 14 (by decide) (by decide)
  have e15 := hs 15 (by decide) (by decide)
  have e16 := hs 16 (by decide) (by decide)
  have hA : ∀ i, ArtE S S' i := fun i => ⟨by rw [e5], by rw [e7], fun _ _ => by rw [e6]⟩
  have hD : ∀ D, DepE S S' D := fun D => ⟨by rw [e11], by rw [e12], fun _ _ => by rw [e13]⟩
  have hX : ∀ D, ExcQ S S' D := fun D => ⟨by rw [e14], fun _ _ => ⟨by rw [e15], fun _ _ => by rw [e16]⟩⟩
  have hn : ∀ i, ndc S' i = ndc S i := fun i => by unfold ndc; rw [e10]
  refine ⟨⟨t1, h4.trans t2, fun i hi => ?_⟩, ⟨fun i i1 i2 => ?_, fun i k i1 k1 hk => ?_⟩, fun i hi => ⟨(h1 i hi).1, (h1 i hi).2.e (t3 i hi).1 (hA i) (by rw [e8]) (by rw [e9]) (by rw [e10]) (fun _ _ => rfl)⟩, fun i k hi hk => ?_, h3.1, fun i k j q hi hk hj hq => ?_⟩
  · obtain ⟨a1, a2, a3, a4, a5⟩ := t3 i hi
    refine ⟨a1.e (hA i), by rw [e8]; exact a2, by rw [e10, hn]; exact a3, by rw [hn]; exact a4, fun k hk => ?_⟩
    rw [hn] at hk
    exact (a5 k hk).e (hD _) (hX _)
  · rw [e8, e9, e10]; exact z.1 i i1 i2
  · rw [hn] at hk; rw [e14]; exact z.2 i k i1 k1 hk
  · rw [hn] at hk
    exact (h2 i k hi hk).e ((t3 i hi).2.2.2.2 k hk) (hD _) (hX _)
  · rw [hn] at hk hq
    exact h3.2 i k j q hi hk hj hq
theorem TbC.vw (h : TbC lo g A S ga gd N) (hv : Vw S S') : TbC lo g A S' ga gd N :=
  h.same hv.1.2.1 (fun k k1 k2 => hv.2.1 k (by omega) (by omega) (by omega) (by omega) (by omega) (by omega) (by omega))
theorem RsC.same (h : RsC Z S ga N R) (h18 : S'.1 18 = S.1 18) (hs : ∀ e, e < 20 → S'.2 20 e = S.2 20 e ∧ S'.2 21 e = S.2 21 e ∧ S'.2 22 e = S.2 22 e) : RsC Z S' ga N R := by
  obtain ⟨⟨r1, r2, r3⟩, h2, h3⟩ := h
  refine ⟨⟨r1, h18.trans r2, fun e he => ?_⟩, h2, fun e he => ?_⟩
  · rw [(hs e (by omega)).1]; exact r3 e he
  · rw [(hs e (by omega)).1, (hs e (by omega)).2.1, (hs e (by omega)).2.2]; exact h3 e he
theorem RsC.vw (h : RsC Z S ga N R) (hv : Vw S S') : RsC Z S' ga N R := h.same hv.1.2.2.2 hv.2.2
theorem LnC.z (h0 : S.1 0 = 0) : LnC c S 0 := ⟨Nat.zero_le _, h0, fun j hj => absurd hj (Nat.not_lt_zero _)⟩
end REP2
