/-! ===== the class's objects: versions, ranges, artifacts ===== -/
/-- the cells from lo on that were there stay -/
def Ext (lo : Nat) (g g' : hp_H) : Prop := g.2 ≤ g'.2 ∧ ∀ a, lo ≤ a → a < g.2 → g'.1 a = g.1 a
section EXT
variable {lo : Nat} {g g' g'' : hp_H}
theorem Ext.rfl' : Ext lo g g := ⟨Nat.le_refl _, fun _ _ _ => rfl⟩
theorem Ext.trans (h : Ext lo g g') (h' : Ext lo g' g'') : Ext lo g g'' := ⟨Nat.le_trans h.1 h'.1, fun a h1 h2 => (h'.2 a h1 (Nat.lt_of_lt_of_le h2 h.1)).trans (h.2 a h1 h2)⟩
theorem Ext.push (e : hp_E) : Ext lo g (hp_push g e) := ⟨Nat.le_succ _, fun a _ h2 => by rw [hp_push_1, if_neg (by omega)]⟩
theorem Ext.up {a : Nat} (e : hp_E) (ha : g.2 ≤ a) : Ext lo g (hp_up g a e) := ⟨Nat.le_refl _, fun b _ h2 => by rw [hp_up_1, if_neg (by omega)]⟩
theorem Ext.cbo {x : Nat} {l p n u : Int32} {c : Nat → Int32} {A : Nat → Option Nat} {s d : Nat} {E : Nat → ES} (hlo : x + 14 ≤ lo) : Ext lo g (cb g x l p n u c A s d E) := ⟨Nat.le_refl _, fun a h1 _ => cb_out (by omega)⟩
theorem Ext.cbi {x : Nat} {l p n u : Int32} {c : Nat → Int32} {A : Nat → Option Nat} {s d : Nat} {E : Nat → ES} (hlo : x + 14 ≤ lo) : Ext lo (cb g x l p n u c A s d E) g := ⟨Nat.le_refl _, fun a h1 _ => (cb_out (by omega)).symm⟩
end EXT
noncomputable def prt (v : Nat → Int32) (N p : Nat) : Int64 := pn v (pv v N p)
/-- a version object at v, its parts P -/
def Vat (lo : Nat) (h : hp_H) (v : Nat) (P : Nat → Int64) : Prop := lo ≤ v ∧ v + 1 < h.2 ∧ h.1 v = some (.inr (6, [.ref (v + 1)])) ∧ ∃ f : Nat → Int64, h.1 (v + 1) = some (.inl (1, 12, .inr (.inl f))) ∧ ∀ p, p < 12 → f p = P p
theorem Vat.ext {lo : Nat} {h h' : hp_H} {v : Nat} {P : Nat → Int64} (hv : Vat lo h v P) (he : Ext lo h h') : Vat lo h' v P := by
  obtain ⟨h1, h2, h3, f, h4, h5⟩ := hv
  exact ⟨h1, Nat.lt_of_lt_of_le h2 he.1, (he.2 v h1 (by omega)).trans h3, f, (he.2 (v + 1) (by omega) h2).trans h4, h5⟩
theorem cl_order_L {lo : Nat} {h : hp_H} {v w : Nat} {P Q : Nat → Int64} (hv : Vat lo h v P) (hw : Vat lo h w Q) : ∀ (n p : Nat), p ≤ 12 → 12 - p < n → f_VS_orderAgainst_L2 n v (some w) (nI p) h = some (cmpP P Q (12 - p) p, h) := by
  obtain ⟨h1, h2, h3, f, h4, h5⟩ := hv
  obtain ⟨k1, k2, k3, f', k4, k5⟩ := hw
  intro n
  induction n with
  | zero => intro p _ hn; omega
  | succ n ih =>
    intro p hp hn
    simp only [f_VS_orderAgainst_L2]
    by_cases hlt : p < 12
    · have e1 : hp_fR h (some v) 6 0 = some (some (v + 1)) := hp_fR_ref h3 rfl
      have e2 : hp_fR h (some w) 6 0 = some (some (w + 1)) := hp_fR_ref k3 rfl
      have e3 : hp_aL h (some (v + 1)) 1 (nI p) = some (P p) := by rw [hp_aL_at h4 hlt (by decide), h5 p hlt]
      have e4 : hp_aL h (some (w + 1)) 1 (nI p) = some (Q p) := by rw [hp_aL_at k4 hlt (by decide), k5 p hlt]
      rw [if_neg (show ¬ (12 : Int32) ≤ nI p from nI_ge (b := 12) hlt (by decide))]
      simp only [e1, e2, e3, e4, Option.bind_some]
      rw [show 12 - p = (12 - (p + 1)) + 1 by omega, cmpP]
      by_cases hq : P p = Q p
      · rw [if_pos ((lg_cmp_eq _ _).mpr hq), if_pos hq, nI_1]
        exact ih (p + 1) (by omega) (by omega)
      · rw [if_neg (fun z => hq ((lg_cmp_eq _ _).mp z)), if_neg hq]
        by_cases hl : P p < Q p
        · rw [if_neg (fun z => absurd ((lg_cmp_ge _ _).mp z) (Int64.not_le.mpr hl)), if_pos hl]
        · rw [if_pos ((lg_cmp_ge _ _).mpr (Int64.not_lt.mp hl)), if_neg hl]
    · rw [if_pos (show (12 : Int32) ≤ nI p from nI_le (a := 12) (by omega) (by omega)), show 12 - p = 0 by omega]
      rfl
theorem cl_order {lo : Nat} {h : hp_H} {v w : Nat} {P Q : Nat → Int64} (hv : Vat lo h v P) (hw : Vat lo h w Q) : f_VS_orderAgainst h v (some w) = some (cmpP P Q 12 0, h) :=
  cl_order_L hv hw FU 0 (by omega) (FU_big (by omega))
/-- a range object at r: w if it is a wish; it holds the versions whose parts have Hd -/
def Rat (lo : Nat) (h : hp_H) (r : Nat) (w : Int32) (Hd : (Nat → Int64) → Prop) : Prop := lo ≤ r ∧ r < h.2 ∧ ∃ (L H : Option Nat) (lp hq : Int32) (PL PH : Nat → Int64), h.1 r = some (.inr (5, [.int w, va_rf L, .int lp, va_rf H, .int hq])) ∧ (∀ a, L = some a → Vat lo h a PL) ∧ (∀ a, H = some a → Vat lo h a PH) ∧ ∀ P, Hd P ↔ (L = none ∨ 0 < cmpP P PL 12 0 ∨ (cmpP P PL 12 0 = 0 ∧ lp = 0)) ∧ (H = none ∨ cmpP P PH 12 0 < 0 ∨ (cmpP P PH 12 0 = 0 ∧ hq = 0))
theorem Rat.ext {lo : Nat} {h h' : hp_H} {r : Nat} {w : Int32} {Hd : (Nat → Int64) → Prop} (hr : Rat lo h r w Hd) (he : Ext lo h h') : Rat lo h' r w Hd := by
  obtain ⟨h1, h2, L, H, lp, hq, PL, PH, h3, h4, h5, h6⟩ := hr
  exact ⟨h1, Nat.lt_of_lt_of_le h2 he.1, L, H, lp, hq, PL, PH, (he.2 r h1 h2).trans h3, fun a ha => (h4 a ha).ext he, fun a ha => (h5 a ha).ext he, h6⟩
theorem cl_holds {lo : Nat} {h : hp_H} {r v : Nat} {w : Int32} {Hd : (Nat → Int64) → Prop} {P : Nat → Int64} (hr : Rat lo h r w Hd) (hv : Vat lo h v P) : f_RG_holds h r (some v) = some (zi (Hd P), h) := by
  obtain ⟨h1, h2, L, H, lp, hq, PL, PH, h3, h4, h5, h6⟩ := hr
  have o1 : hp_o h (some r) 5 = some r := hp_o_of h3
  have o2 : hp_o h (some v) 6 = some v := hp_o_of hv.2.2.1
  have e1 : hp_fR h (some r) 5 1 = some L := hp_fR_of h3 rfl
  have e2 : hp_fI h (some r) 5 2 = some lp := hp_fI_of h3 rfl
  have e3 : hp_fR h (some r) 5 3 = some H := hp_fR_of h3 rfl
  have e4 : hp_fI h (some r) 5 4 = some hq := hp_fI_of h3 rfl
  have kl : f_RG_keepsLow h r (some v) = some (zi (L = none ∨ 0 < cmpP P PL 12 0 ∨ (cmpP P PL 12 0 = 0 ∧ lp = 0)), h) := by
    unfold f_RG_keepsLow
    simp only [e1, e2, o2, Option.bind_some]
    cases L with
    | none => rw [if_pos rfl, zi_1 (Or.inl rfl)]
    | some a =>
      rw [if_neg (by simp), cl_order hv (h4 a rfl)]
      simp only [Option.bind_some, e2]
      by_cases c1 : 0 < cmpP P PL 12 0
      · rw [if_pos c1, zi_1 (Or.inr (Or.inl c1))]
      · rw [if_neg c1]
        by_cases c2 : cmpP P PL 12 0 = 0
        · rw [if_pos c2]
          by_cases c3 : lp = 0
          · rw [if_pos c3, zi_1 (Or.inr (Or.inr ⟨c2, c3⟩))]
          · rw [if_neg c3, zi_0 (fun z => z.elim (by simp) (fun z => z.elim c1 (fun z => c3 z.2)))]
        · rw [if_neg c2, zi_0 (fun z => z.elim (by simp) (fun z => z.elim c1 (fun z => c2 z.1)))]
  have kh : f_RG_keepsHigh h r (some v) = some (zi (H = none ∨ cmpP P PH 12 0 < 0 ∨ (cmpP P PH 12 0 = 0 ∧ hq = 0)), h) := by
    unfold f_RG_keepsHigh
    simp only [e3, e4, o2, Option.bind_some]
    cases H with
    | none => rw [if_pos rfl, zi_1 (Or.inl rfl)]
    | some a =>
      rw [if_neg (by simp), cl_order hv (h5 a rfl)]
      simp only [Option.bind_some, e4]
      by_cases c1 : cmpP P PH 12 0 < 0
      · rw [if_pos c1, zi_1 (Or.inr (Or.inl c1))]
      · rw [if_neg c1]
        by_cases c2 : cmpP P PH 12 0 = 0
        · rw [if_pos c2]
          by_cases c3 : hq = 0
          · rw [if_pos c3, zi_1 (Or.inr (Or.inr ⟨c2, c3⟩))]
          · rw [if_neg c3, zi_0 (fun z => z.elim (by simp) (fun z => z.elim c1 (fun z => c3 z.2)))]
        · rw [if_neg c2, zi_0 (fun z => z.elim (by simp) (fun z => z.elim c1 (fun z => c2 z.1)))]
  unfold f_RG_holds
  rw [zi_congr (h6 P)]
  simp only [o1, kl, kh, Option.bind_some, zi_eq0]
  by_cases c1 : L = none ∨ 0 < cmpP P PL 12 0 ∨ (cmpP P PL 12 0 = 0 ∧ lp = 0)
  · rw [if_neg (fun z => z c1)]
    by_cases c2 : H = none ∨ cmpP P PH 12 0 < 0 ∨ (cmpP P PH 12 0 = 0 ∧ hq = 0)
    · rw [if_neg (fun z => z c2), zi_1 ⟨c1, c2⟩]
    · rw [if_pos c2, zi_0 (fun z => c2 z.2)]
  · rw [if_pos c1, zi_0 (fun z => c1 z.1)]
/-- an artifact object at a -/
def Aat (lo : Nat) (h : hp_H) (a : Nat) (num : Int32) (nm : Int64) (v ch : Nat) (dc cl rt : Int32) : Prop := lo ≤ a ∧ a + 1 < h.2 ∧ h.1 a = some (.inr (3, [.int num, .long nm, .ref v, .ref ch, .ref (a + 1), .int dc, .int cl, .int rt]))
theorem Aat.ext {lo : Nat} {h h' : hp_H} {a v ch : Nat} {num dc cl rt : Int32} {nm : Int64} (ha : Aat lo h a num nm v ch dc cl rt) (he : Ext lo h h') : Aat lo h' a num nm v ch dc cl rt :=
  ⟨ha.1, Nat.lt_of_lt_of_le ha.2.1 he.1, (he.2 a ha.1 (by have := ha.2.1; omega)).trans ha.2.2⟩
section PKF
variable {lo : Nat} {h : hp_H} {x b N r : Nat} {w : Int32} {Hd : (Nat → Int64) → Prop} {name : Int64} {ga : Nat → Nat} {nm : Nat → Int64} {rt : Nat → Int32} {PV : Nat → Nat → Int64}
theorem cl_pick_L (hN : N ≤ 20) (hn : hp_fI h (some x) 0 2 = some (nI N)) (hb : hp_fR h (some x) 0 1 = some (some b)) (hA : ∀ i, i < N → hp_aR h (some b) 4 (nI i) = some (some (ga i))) (ha : ∀ i, i < N → ∃ num v ch dc cl, Aat lo h (ga i) num (nm i) v ch dc cl (rt i) ∧ Vat lo h v (PV i)) (hr : Rat lo h r w Hd) : ∀ (f i : Nat) (o : Option Nat), i ≤ N → N - i < f → (∀ y, o = some y → y < N) → f_LL_pickFor_L6 f x name (some r) (o.map ga) (nI i) h = some ((pkF (fun i => rt i = 0 ∧ nm i = name ∧ Hd (PV i)) (fun i j => 0 < cmpP (PV i) (PV j) 12 0) (N - i) i o).map ga, h) := by
  have o1 : hp_o h (some r) 5 = some r := by
    obtain ⟨_, _, L, H, lp, hq, PL, PH, h3, _⟩ := hr
    exact hp_o_of h3
  intro f
  induction f with
  | zero => intro i o _ hf; omega
  | succ f ih =>
    intro i o hi hf ho
    simp only [f_LL_pickFor_L6, hn, hb, Option.bind_some]
    by_cases hlt : i < N
    · obtain ⟨num, v, ch, dc, cl, a1, a2⟩ := ha i hlt
      have e2 : hp_fR h (some (ga i)) 3 2 = some (some v) := hp_fR_ref a1.2.2 rfl
      have e1 : hp_fL h (some (ga i)) 3 1 = some (nm i) := hp_fL_of a1.2.2 rfl
      have e7 : hp_fI h (some (ga i)) 3 7 = some (rt i) := hp_fI_of a1.2.2 rfl
      have o6 : hp_o h (some v) 6 = some v := hp_o_of a2.2.2.1
      rw [if_neg (nI_ge hlt (by omega)), show N - i = (N - (i + 1)) + 1 by omega, pkF]
      simp only [hA i hlt, e7, e1, e2, o1, Option.bind_some, cl_holds hr a2, f_LL_pickFor_L58]
      have skip : ¬ ((rt i = 0 ∧ nm i = name ∧ Hd (PV i)) ∧ ∀ y, o = some y → 0 < cmpP (PV i) (PV y) 12 0) → f_LL_pickFor_L6 f x name (some r) (o.map ga) (nI i + 1) h = some ((pkF (fun i => rt i = 0 ∧ nm i = name ∧ Hd (PV i)) (fun i j => 0 < cmpP (PV i) (PV j) 12 0) (N - (i + 1)) (i + 1) (@ite _ ((rt i = 0 ∧ nm i = name ∧ Hd (PV i)) ∧ ∀ y, o = some y → 0 < cmpP (PV i) (PV y) 12 0) (Classical.propDecidable _) (some i) o)).map ga, h) := by
        intro hno
        rw [if_neg hno, nI_1]
        exact ih (i + 1) o (by omega) (by omega) ho
      have take : ((rt i = 0 ∧ nm i = name ∧ Hd (PV i)) ∧ ∀ y, o = some y → 0 < cmpP (PV i) (PV y) 12 0) → f_LL_pickFor_L6 f x name (some r) (some (ga i)) (nI i + 1) h = some ((pkF (fun i => rt i = 0 ∧ nm i = name ∧ Hd (PV i)) (fun i j => 0 < cmpP (PV i) (PV j) 12 0) (N - (i + 1)) (i + 1) (@ite _ ((rt i = 0 ∧ nm i = name ∧ Hd (PV i)) ∧ ∀ y, o = some y → 0 < cmpP (PV i) (PV y) 12 0) (Classical.propDecidable _) (some i) o)).map ga, h) := by
        intro hy
        rw [if_pos hy, nI_1]
        exact ih (i + 1) (some i) (by omega) (by omega) (fun y q => by cases q; exact hlt)
      by_cases c1 : rt i = 0
      · rw [if_pos c1]
        by_cases c2 : nm i = name
        · rw [if_pos ((lg_cmp_eq _ _).mpr c2)]
          by_cases c3 : Hd (PV i)
          · rw [zi_1 c3, if_neg (by decide)]
            unfold f_LL_pickFor_L59
            rw [if_neg (by decide)]
            cases o with
            | none => rw [Option.map_none, if_pos rfl]; exact take ⟨⟨c1, c2, c3⟩, fun y q => by cases q⟩
            | some y =>
              obtain ⟨num', v', ch', dc', cl', b1, b2⟩ := ha y (ho y rfl)
              have e3 : hp_fR h (some (ga y)) 3 2 = some (some v') := hp_fR_ref b1.2.2 rfl
              rw [Option.map_some, if_neg (by simp)]
              simp only [e2, e3, o6, Option.bind_some, cl_order a2 b2]
              by_cases c4 : cmpP (PV i) (PV y) 12 0 ≤ 0
              · rw [if_pos c4]
                exact skip (fun z => absurd (z.2 y rfl) (Int32.not_lt.mpr c4))
              · rw [if_neg c4]
                exact take ⟨⟨c1, c2, c3⟩, fun y' q => by cases q; exact Int32.not_le.mp c4⟩
          · rw [zi_0 c3, if_pos rfl]
            unfold f_LL_pickFor_L59
            rw [if_pos rfl]
            exact skip (fun z => c3 z.1.2.2)
        · rw [if_neg (fun z => c2 ((lg_cmp_eq _ _).mp z))]
          unfold f_LL_pickFor_L59
          rw [if_pos rfl]
          exact skip (fun z => c2 z.1.2.1)
      · rw [if_neg c1]
        unfold f_LL_pickFor_L59
        rw [if_pos rfl]
        exact skip (fun z => c1 z.1.1)
    · have : i = N := by omega
      subst this
      rw [if_pos (nI_le (Nat.le_refl _) (by omega)), Nat.sub_self]
      rfl
theorem cl_pick (hN : N ≤ 20) (hn : hp_fI h (some x) 0 2 = some (nI N)) (hb : hp_fR h (some x) 0 1 = some (some b)) (hA : ∀ i, i < N → hp_aR h (some b) 4 (nI i) = some (some (ga i))) (ha : ∀ i, i < N → ∃ num v ch dc cl, Aat lo h (ga i) num (nm i) v ch dc cl (rt i) ∧ Vat lo h v (PV i)) (hr : Rat lo h r w Hd) : f_LL_pickFor h x name (some r) = some ((pkF (fun i => rt i = 0 ∧ nm i = name ∧ Hd (PV i)) (fun i j => 0 < cmpP (PV i) (PV j) 12 0) N 0 none).map ga, h) :=
  cl_pick_L hN hn hb hA ha hr FU 0 none (Nat.zero_le _) (FU_big (by omega)) (fun y q => by cases q)
end PKF
