/-! ===== the class's parts of a version ===== -/
theorem hp_up_up (g : hp_H) (a : Nat) (e e' : hp_E) : hp_up (hp_up g a e) a e' = hp_up g a e' := by
  refine Prod.ext (funext fun q => ?_) rfl
  simp only [hp_up]
  split <;> rfl
theorem va_up_id {α : Type} (f : Nat → α) (k : Nat) : va_up f k (f k) = f := by
  funext j
  unfold va_up
  by_cases h : j = k
  · rw [if_pos h, h]
  · rw [if_neg h]
theorem mk_ndg {v : Int32} (h : Mk v) : ¬ Dg v := by
  rcases h with h | h <;> subst h <;> decide
theorem mk_nlr {v : Int32} (h : Mk v) : ¬ Lr v := by
  rcases h with h | h <;> subst h <;> decide
theorem lr_ndg {v : Int32} (h : Lr v) : ¬ Dg v := by
  intro hd
  have h1 := h.1
  have h2 := hd.2
  exact h1 (Int32.lt_of_le_of_lt (Int32.not_lt.mp h2) (by decide))
def bfr (w : Nat → Int32) (i : Nat) : Int32 := if i = 0 then 46 else w (i - 1)
def Bdy (w : Nat → Int32) (i : Nat) : Prop := i = 0 ∨ Mk (w (i - 1)) ∨ Mk (w i) ∨ ¬ (Dg (w (i - 1)) ↔ Dg (w i))
theorem bdy_dg {w : Nat → Int32} {i : Nat} (hb : Bdy w i) (hd : Dg (w i)) : ¬ Dg (bfr w i) := by
  unfold bfr
  by_cases h0 : i = 0
  · rw [if_pos h0]; decide
  · rw [if_neg h0]
    rcases hb with h | h | h | h
    · exact absurd h h0
    · exact mk_ndg h
    · exact absurd hd (mk_ndg h)
    · exact fun z => h ⟨fun _ => hd, fun _ => z⟩
theorem bdy_lr {w : Nat → Int32} {i : Nat} (hb : Bdy w i) (hd : Lr (w i)) : ¬ Lr (bfr w i) := by
  unfold bfr
  by_cases h0 : i = 0
  · rw [if_pos h0]; decide
  · rw [if_neg h0]
    rcases hb with h | h | h | h
    · exact absurd h h0
    · exact mk_nlr h
    · exact absurd hd (mk_nlr h)
    · exact fun z => h ⟨fun q => absurd q (lr_ndg z), fun q => absurd q (lr_ndg hd)⟩
section CLV
variable {g : hp_H} {x : Nat} {l p n u : Int32} {c : Nat → Int32} {A : Nat → Option Nat} {s d : Nat} {E : Nat → ES}
/-- the heap while a version's parts f are written -/
abbrev vh (g : hp_H) (v : Nat) (f : Nat → Int64) : hp_H := hp_up g (v + 1) (.inl (1, 12, .inr (.inl f)))
theorem vh_r {v : Nat} {f : Nat → Int64} (hx : x + 14 ≤ v) (hv : g.1 v = some (.inr (6, [.ref (v + 1)]))) : hp_fR (cb (vh g v f) x l p n u c A s d E) (some v) 6 0 = some (some (v + 1)) := by
  refine hp_fR_ref (fs := [.ref (v + 1)]) ?_ rfl
  rw [cb_out hx, hp_up_1, if_neg (by omega), hv]
theorem vh_a {v q : Nat} {f : Nat → Int64} (hx : x + 14 ≤ v) (hq : q < 12) : hp_aL (cb (vh g v f) x l p n u c A s d E) (some (v + 1)) 1 (nI q) = some (f q) := by
  refine hp_aL_at (n := 12) ?_ hq (by decide)
  rw [cb_out (by omega), hp_up_1, if_pos rfl]
theorem vh_s {v q : Nat} {f : Nat → Int64} {y : Int64} (hx : x + 14 ≤ v) (hq : q < 12) : hp_sL (cb (vh g v f) x l p n u c A s d E) (some (v + 1)) 1 (nI q) y = some (cb (vh g v (va_up f q y)) x l p n u c A s d E) := by
  rw [hp_sL_at (n := 12) (f := f) (by rw [cb_out (by omega), hp_up_1, if_pos rfl]) hq (by decide), cb_hup (by omega), hp_up_up]
/-- one step of the scan, at character a + i of the line -/
theorem cl_vs_step {v a b i : Nat} {f : Nat → Int64} {y4 : Int32} {y5 : Int64} (F : Nat) (hi : a + i < b) (hb : b ≤ 40) (h12 : i < 12) : f_VS_init_L21 (F + 1) v (some (x + 2)) (nI a) (nI b) y4 y5 (nI (a + i)) (cb (vh g v f) x l p n u c A s d E) = f_VS_init_L59 (f_VS_init_L21 F) v (some (x + 2)) (nI a) (nI b) y4 y5 (nI (a + i)) (sh c a i) (bfr (sh c a) i) (cb (vh g v f) x l p n u c A s d E) := by
  have e : nI (a + i) - nI a = nI i := by
    rw [show a + i = i + a by omega, ← nI_add, Int32.add_sub_cancel]
  simp only [f_VS_init_L21]
  rw [if_neg (nI_ge hi (by omega)), e, if_neg (show ¬ (12 : Int32) ≤ nI i from nI_ge (b := 12) h12 (by decide))]
  simp only [cb_la, hp_ix_nI (show a + i < 40 by omega) (by decide), Option.map_some, Option.bind_some]
  by_cases h0 : i = 0
  · subst h0
    rw [if_pos (show nI (a + 0) = nI a from rfl)]
    rfl
  · rw [if_neg (fun z => h0 (by have := (nI_eq (by omega) (by omega)).mp z; omega))]
    have e2 : nI (a + i) - 1 = nI (a + (i - 1)) := by
      rw [show a + i = (a + (i - 1)) + 1 by omega, nI_pred]
    rw [e2, hp_ix_nI (show a + (i - 1) < 40 by omega) (by decide)]
    simp only [Option.map_some, Option.bind_some]
    unfold bfr
    rw [if_neg h0]
    rfl
variable {v a b M : Nat}
/-- digits, from the second of a part on -/
theorem cl_vs_dg (hx : x + 14 ≤ v) (hv : g.1 v = some (.inr (6, [.ref (v + 1)]))) (hb : b = a + M) (hb4 : b ≤ 40) (hM : M ≤ 12) {q : Nat} (hq : q < 12) : ∀ (m i F : Nat) (f : Nat → Int64) (y5 : Int64), i + m ≤ M → 0 < i → Dg (sh c a (i - 1)) → (∀ j, i ≤ j → j < i + m → Dg (sh c a j)) → f_VS_init_L21 (F + m) v (some (x + 2)) (nI a) (nI b) (nI q) y5 (nI (a + i)) (cb (vh g v f) x l p n u c A s d E) = f_VS_init_L21 F v (some (x + 2)) (nI a) (nI b) (nI q) y5 (nI (a + (i + m))) (cb (vh g v (va_up f q (dv (sh c a) m i (f q)))) x l p n u c A s d E) := by
  intro m
  induction m with
  | zero =>
    intro i F f y5 _ _ _ _
    rw [dv]
    rw [va_up_id f q]; rfl
  | succ m ih =>
    intro i F f y5 him hi hp hd
    rw [show F + (m + 1) = (F + m) + 1 by omega, cl_vs_step (F + m) (by omega) hb4 (by omega)]
    have hdi := hd i (Nat.le_refl _) (by omega)
    have hbf : Dg (bfr (sh c a) i) := by unfold bfr; rw [if_neg (by omega)]; exact hp
    unfold f_VS_init_L59
    simp only [cl_isDigit, Option.bind_some, zi_eq0]
    rw [if_neg (fun z => z hdi), if_neg (fun z => z hbf)]
    unfold f_VS_init_L84
    rw [show nI q + 0 = nI q from Int32.add_zero _]
    simp only [vh_r hx hv, vh_a hx hq, vh_s hx hq, Option.bind_some, nI_1]
    have := ih (i + 1) F (va_up f q (f q * 10 + (sh c a i - 48).toInt64)) y5 (by omega) (by omega) (by rw [Nat.add_sub_cancel]; exact hdi) (fun j j1 j2 => hd j (by omega) (by omega))
    rw [show a + i + 1 = a + (i + 1) by omega, this, va_up_up, va_up_self, dv, show i + 1 + m = i + (m + 1) by omega, Int64.mul_comm (f q) 10]
/-- letters, from the second of a part on -/
theorem cl_vs_lr (hx : x + 14 ≤ v) (hv : g.1 v = some (.inr (6, [.ref (v + 1)]))) (hb : b = a + M) (hb4 : b ≤ 40) (hM : M ≤ 12) {q : Nat} (hq : q < 12) : ∀ (m i F : Nat) (f : Nat → Int64) (y5 : Int64), i + m ≤ M → 0 < i → Lr (sh c a (i - 1)) → (∀ j, i ≤ j → j < i + m → Lr (sh c a j)) → ∃ y5', f_VS_init_L21 (F + m) v (some (x + 2)) (nI a) (nI b) (nI q) y5 (nI (a + i)) (cb (vh g v f) x l p n u c A s d E) = f_VS_init_L21 F v (some (x + 2)) (nI a) (nI b) (nI q) y5' (nI (a + (i + m))) (cb (vh g v (va_up f q (wv (sh c a) m i y5 (f q)))) x l p n u c A s d E) := by
  intro m
  induction m with
  | zero =>
    intro i F f y5 _ _ _ _
    rw [wv]
    rw [va_up_id f q]; exact ⟨y5, rfl⟩
  | succ m ih =>
    intro i F f y5 him hi hp hd
    rw [show F + (m + 1) = (F + m) + 1 by omega, cl_vs_step (F + m) (by omega) hb4 (by omega)]
    have hdi := hd i (Nat.le_refl _) (by omega)
    have hbf : Lr (bfr (sh c a) i) := by unfold bfr; rw [if_neg (by omega)]; exact hp
    unfold f_VS_init_L59
    simp only [cl_isDigit, cl_isLetter, Option.bind_some, zi_eq0]
    rw [if_pos (lr_ndg hdi), if_neg (fun z => z hdi), if_neg (fun z => z hbf)]
    unfold f_VS_init_L149 f_LL_letterNumber
    simp only [vh_r hx hv, vh_a hx hq, vh_s hx hq, Option.bind_some, nI_1]
    obtain ⟨y5', this⟩ := ih (i + 1) F (va_up f q (f q + (sh c a i - 97 + 1).toInt64 * y5)) (y5 / 27) (by omega) (by omega) (by rw [Nat.add_sub_cancel]; exact hdi) (fun j j1 j2 => hd j (by omega) (by omega))
    refine ⟨y5', ?_⟩
    rw [show a + i + 1 = a + (i + 1) by omega, this, va_up_up, va_up_self, wv, show i + 1 + m = i + (m + 1) by omega]
theorem nI_m1 (q : Nat) : nI (q + 1) + (-1) = nI q := by
  rw [← nI_1, Int32.add_assoc]
  exact Int32.add_zero _
theorem nI_m1' (q : Nat) : nI q + (-1) + 1 = nI q := by
  rw [Int32.add_assoc]
  exact Int32.add_zero _
/-- from a boundary on -/
theorem cl_vs (hx : x + 14 ≤ v) (hv : g.1 v = some (.inr (6, [.ref (v + 1)]))) (hb : b = a + M) (hb4 : b ≤ 40) (hM : M ≤ 12) (hV : ∀ j, j < M → VC (sh c a j)) : ∀ (k i q G : Nat) (f : Nat → Int64) (y5 : Int64), i ≤ M → M - i < k → M - i < G → q ≤ i → (i < M → Bdy (sh c a) i) → (∀ t, q ≤ t → f t = 0) → ∃ f' : Nat → Int64, f_VS_init_L21 G v (some (x + 2)) (nI a) (nI b) (nI q + (-1)) y5 (nI (a + i)) (cb (vh g v f) x l p n u c A s d E) = some (cb (vh g v f') x l p n u c A s d E) ∧ (∀ t, t < q → f' t = f t) ∧ ∀ t, f' (q + t) = pn (sh c a) ((pts (sh c a) M k i)[t]?) := by
  intro k
  induction k with
  | zero => intro i q G f y5 _ hk; omega
  | succ k ih =>
    intro i q G f y5 hi hk hG hq hB hf
    obtain ⟨F, rfl⟩ : ∃ F, G = F + 1 := ⟨G - 1, by omega⟩
    by_cases hlt : i < M
    · have hB := hB hlt
      by_cases hm : Mk (sh c a i)
      · rw [cl_vs_step F (by omega) hb4 (by omega)]
        unfold f_VS_init_L59
        simp only [cl_isDigit, cl_isLetter, Option.bind_some, zi_eq0]
        rw [if_pos (mk_ndg hm), if_pos (mk_nlr hm), nI_1, show a + i + 1 = a + (i + 1) by omega]
        obtain ⟨f', e1, e2, e3⟩ := ih (i + 1) q F f y5 (by omega) (by omega) (by omega) (by omega) (fun _ => Or.inr (Or.inl (by rw [Nat.add_sub_cancel]; exact hm))) hf
        refine ⟨f', e1, e2, fun t => ?_⟩
        rw [e3 t, pts, if_neg (by omega), if_pos hm]
      · obtain ⟨r1, r2, r3, r4⟩ := rn_spec (sh c a) (Dg (sh c a i)) (M - (i + 1)) (i + 1)
        have hpts : pts (sh c a) M (k + 1) i = (i, rn (sh c a) (Dg (sh c a i)) (i + 1) (M - (i + 1))) :: pts (sh c a) M k (rn (sh c a) (Dg (sh c a i)) (i + 1) (M - (i + 1))) := by
          rw [pts, if_neg (by omega), if_neg hm]
        rw [hpts]
        generalize rn (sh c a) (Dg (sh c a i)) (i + 1) (M - (i + 1)) = e at *
        have hqe : q < 12 := by omega
        -- the end of the run is a boundary
        have hBe : e < M → Bdy (sh c a) e := by
          intro he
          have h4 := r4 (by omega)
          rcases Nat.eq_or_lt_of_le r1 with z | z
          · subst z
            by_cases hme : Mk (sh c a (i + 1))
            · exact Or.inr (Or.inr (Or.inl hme))
            · refine Or.inr (Or.inr (Or.inr fun w => h4 ⟨hme, ?_⟩))
              rw [Nat.add_sub_cancel] at w
              exact w.symm
          · have h3 := r3 (e - 1) (by omega) (by omega)
            by_cases hme : Mk (sh c a e)
            · exact Or.inr (Or.inr (Or.inl hme))
            · exact Or.inr (Or.inr (Or.inr fun w => h4 ⟨hme, w.symm.trans h3.2⟩))
        rw [cl_vs_step F (by omega) hb4 (by omega)]
        have hfq : f q = 0 := hf q (Nat.le_refl _)
        have fin : ∀ (y : Int64) (y5 : Int64), pn (sh c a) (some (i, e)) = y → ∃ f' : Nat → Int64, f_VS_init_L21 (F - (e - (i + 1))) v (some (x + 2)) (nI a) (nI b) (nI q) y5 (nI (a + e)) (cb (vh g v (va_up f q y)) x l p n u c A s d E) = some (cb (vh g v f') x l p n u c A s d E) ∧ (∀ t, t < q → f' t = f t) ∧ ∀ t, f' (q + t) = pn (sh c a) (((i, e) :: pts (sh c a) M k e)[t]?) := by
          intro y y5 hy
          obtain ⟨f', e1, e2, e3⟩ := ih e (q + 1) (F - (e - (i + 1))) (va_up f q y) y5 (by omega) (by omega) (by omega) (by omega) hBe (fun t ht => by rw [va_up_ne _ _ (by omega)]; exact hf t (by omega))
          rw [nI_m1] at e1
          refine ⟨f', e1, fun t ht => by rw [e2 t (by omega), va_up_ne _ _ (by omega)], fun t => ?_⟩
          cases t with
          | zero => rw [Nat.add_zero, e2 q (by omega), va_up_self]; exact hy.symm
          | succ t => rw [show q + (t + 1) = q + 1 + t by omega, e3 t, List.getElem?_cons_succ]
        rcases hV i hlt with hd | hd | hd
        · have hbf := bdy_dg hB hd
          unfold f_VS_init_L59
          simp only [cl_isDigit, cl_isLetter, Option.bind_some, zi_eq0]
          rw [if_neg (fun z => z hd), if_pos hbf]
          unfold f_VS_init_L84
          rw [nI_m1']
          simp only [vh_r hx hv, vh_a hx hqe, vh_s hx hqe, Option.bind_some, nI_1]
          have run := cl_vs_dg (g := g) (x := x) (l := l) (p := p) (n := n) (u := u) (c := c) (A := A) (s := s) (d := d) (E := E) hx hv hb hb4 hM hqe (e - (i + 1)) (i + 1) (F - (e - (i + 1))) (va_up f q (f q * 10 + (sh c a i - 48).toInt64)) y5 (by omega) (by omega) (by rw [Nat.add_sub_cancel]; exact hd) (fun j j1 j2 => ((r3 j j1 (by omega)).2).mpr hd)
          rw [show F - (e - (i + 1)) + (e - (i + 1)) = F by omega, show i + 1 + (e - (i + 1)) = e by omega, va_up_up, va_up_self] at run
          rw [show a + i + 1 = a + (i + 1) by omega, run]
          refine fin _ _ ?_
          show @ite Int64 (Dg (sh c a i)) (Classical.propDecidable _) (dv (sh c a) (e - i) i 0) _ = _
          rw [if_pos hd, show e - i = (e - (i + 1)) + 1 by omega, dv, hfq, Int64.mul_comm 0 10]
        · have hbf := bdy_lr hB hd
          unfold f_VS_init_L59
          simp only [cl_isDigit, cl_isLetter, Option.bind_some, zi_eq0]
          rw [if_pos (lr_ndg hd), if_neg (fun z => z hd), if_pos hbf]
          unfold f_VS_init_L149 f_LL_letterNumber
          rw [nI_m1']
          simp only [vh_r hx hv, vh_a hx hqe, vh_s hx hqe, Option.bind_some, nI_1]
          have hrun : ∀ j, i + 1 ≤ j → j < i + 1 + (e - (i + 1)) → Lr (sh c a j) := by
            intro j j1 j2
            have h3 := r3 j j1 (by omega)
            rcases hV j (by omega) with z | z | z
            · exact absurd (h3.2.mp z) (lr_ndg hd)
            · exact z
            · exact absurd z h3.1
          obtain ⟨y5', run⟩ := cl_vs_lr (g := g) (x := x) (l := l) (p := p) (n := n) (u := u) (c := c) (A := A) (s := s) (d := d) (E := E) hx hv hb hb4 hM hqe (e - (i + 1)) (i + 1) (F - (e - (i + 1))) (va_up f q (-5559060566555523 + (sh c a i - 97 + 1).toInt64 * 205891132094649)) (205891132094649 / 27) (by omega) (by omega) (by rw [Nat.add_sub_cancel]; exact hd) hrun
          · rw [show F - (e - (i + 1)) + (e - (i + 1)) = F by omega, show i + 1 + (e - (i + 1)) = e by omega, va_up_up, va_up_self] at run
            rw [show a + i + 1 = a + (i + 1) by omega, va_up_up, va_up_self, run]
            refine fin _ _ ?_
            show @ite Int64 (Dg (sh c a i)) (Classical.propDecidable _) _ (wv (sh c a) (e - i) i 205891132094649 (-5559060566555523)) = _
            rw [if_neg (lr_ndg hd), show e - i = (e - (i + 1)) + 1 by omega, wv]
        · exact absurd hd hm
    · have : i = M := by omega
      subst this
      simp only [f_VS_init_L21]
      rw [if_pos (by rw [hb]; exact nI_le (Nat.le_refl _) (by omega))]
      refine ⟨f, rfl, fun _ _ => rfl, fun t => ?_⟩
      rw [pts, if_pos (Nat.le_refl _), hf (q + t) (by omega)]
      rfl
end CLV
