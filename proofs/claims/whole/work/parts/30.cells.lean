/-! ===== reading and writing one cell of a heap ===== -/
section CLR
variable {h : hp_H} {a ci k t n j : Nat}
theorem hp_f_of {fs : List Value} {v : Value} (hc : h.1 a = some (.inr (ci, fs))) (hf : fs[k]? = some v) : hp_f h (some a) ci k = some v := by
  simp [hp_f, hc, hf]
theorem hp_fI_of {fs : List Value} {x : Int32} (hc : h.1 a = some (.inr (ci, fs))) (hf : fs[k]? = some (.int x)) : hp_fI h (some a) ci k = some x := by
  unfold hp_fI; rw [hp_f_of hc hf]; rfl
theorem hp_fL_of {fs : List Value} {x : Int64} (hc : h.1 a = some (.inr (ci, fs))) (hf : fs[k]? = some (.long x)) : hp_fL h (some a) ci k = some x := by
  unfold hp_fL; rw [hp_f_of hc hf]; rfl
theorem hp_fR_of {fs : List Value} {x : Option Nat} (hc : h.1 a = some (.inr (ci, fs))) (hf : fs[k]? = some (va_rf x)) : hp_fR h (some a) ci k = some x := by
  unfold hp_fR; rw [hp_f_of hc hf]; cases x <;> rfl
theorem hp_fR_ref {fs : List Value} {x : Nat} (hc : h.1 a = some (.inr (ci, fs))) (hf : fs[k]? = some (.ref x)) : hp_fR h (some a) ci k = some (some x) := hp_fR_of (x := some x) hc hf
theorem hp_o_of {fs : List Value} (hc : h.1 a = some (.inr (ci, fs))) : hp_o h (some a) ci = some a := by
  simp [hp_o, hc]
theorem hp_s_of {fs : List Value} {v : Value} (hc : h.1 a = some (.inr (ci, fs))) (hk : k < fs.length) : hp_s h (some a) ci k v = some (hp_up h a (.inr (ci, fs.set k v))) := by
  simp [hp_s, hc, hk]
theorem hp_aI_of {f : Nat → Int32} (i : Int32) (hc : h.1 a = some (.inl (t, n, .inl f))) : hp_aI h (some a) t i = (hp_ix i n).map f := by
  simp [hp_aI, hp_a, hc, hp_cI]
theorem hp_aL_of {f : Nat → Int64} (i : Int32) (hc : h.1 a = some (.inl (t, n, .inr (.inl f)))) : hp_aL h (some a) t i = (hp_ix i n).map f := by
  simp [hp_aL, hp_a, hc, hp_cL]
theorem hp_aR_of {f : Nat → Option Nat} (i : Int32) (hc : h.1 a = some (.inl (t, n, .inr (.inr (.inr (.inr f)))))) : hp_aR h (some a) t i = (hp_ix i n).map f := by
  simp [hp_aR, hp_a, hc, hp_cR]
theorem hp_aI_at {f : Nat → Int32} (hc : h.1 a = some (.inl (t, n, .inl f))) (hj : j < n) (hn : n < 2 ^ 31) : hp_aI h (some a) t (nI j) = some (f j) := by
  rw [hp_aI_of _ hc, hp_ix_nI hj hn]; rfl
theorem hp_aL_at {f : Nat → Int64} (hc : h.1 a = some (.inl (t, n, .inr (.inl f)))) (hj : j < n) (hn : n < 2 ^ 31) : hp_aL h (some a) t (nI j) = some (f j) := by
  rw [hp_aL_of _ hc, hp_ix_nI hj hn]; rfl
theorem hp_aR_at {f : Nat → Option Nat} (hc : h.1 a = some (.inl (t, n, .inr (.inr (.inr (.inr f)))))) (hj : j < n) (hn : n < 2 ^ 31) : hp_aR h (some a) t (nI j) = some (f j) := by
  rw [hp_aR_of _ hc, hp_ix_nI hj hn]; rfl
theorem hp_len_of {x : vp_A} (hc : h.1 a = some (.inl (t, x))) : hp_len h (some a) t = some (nI x.1) := by
  simp [hp_len, hp_a, hc, nI]
theorem hp_sI_at {f : Nat → Int32} {x : Int32} (hc : h.1 a = some (.inl (t, n, .inl f))) (hj : j < n) (hn : n < 2 ^ 31) : hp_sI h (some a) t (nI j) x = some (hp_up h a (.inl (t, n, .inl (va_up f j x)))) := by
  simp [hp_sI, hp_a, hc, hp_cI, hp_ix_nI hj hn]
theorem hp_sL_at {f : Nat → Int64} {x : Int64} (hc : h.1 a = some (.inl (t, n, .inr (.inl f)))) (hj : j < n) (hn : n < 2 ^ 31) : hp_sL h (some a) t (nI j) x = some (hp_up h a (.inl (t, n, .inr (.inl (va_up f j x))))) := by
  simp [hp_sL, hp_a, hc, hp_cL, hp_ix_nI hj hn]
theorem hp_is_of {fs : List Value} {b : Nat} (hb : h.1 b = some (.inr (ci, fs))) : hp_is h (some b) ci = true := by
  simp [hp_is, hb]
theorem hp_is_none : hp_is h none ci = true := rfl
theorem hp_sR_at {f : Nat → Option Nat} {v : Option Nat} (hc : h.1 a = some (.inl (t, n, .inr (.inr (.inr (.inr f)))))) (hv : hp_is h v ci = true) (hj : j < n) (hn : n < 2 ^ 31) : hp_sR h (some a) t ci (nI j) v = some (hp_up h a (.inl (t, n, .inr (.inr (.inr (.inr (va_up f j v))))))) := by
  simp [hp_sR, hp_a, hc, hp_cR, hp_ix_nI hj hn, hv]
end CLR
theorem va_up_up {α : Type} (f : Nat → α) (k : Nat) (u v : α) : va_up (va_up f k u) k v = va_up f k v := by
  funext j; unfold va_up; split <;> rfl
/-! ===== the class as one block of 14 cells: the line, the artifacts, two lists of entries ===== -/
abbrev ES : Type := Int32 × (Nat → Option Nat) × (Nat → Int32) × (Nat → Int32) × (Nat → Option Nat)
def el_cell (e : Nat) (Z : ES) (k : Nat) : hp_E := match k with
  | 0 => .inr (2, [.ref (e + 1), .ref (e + 2), .ref (e + 3), .ref (e + 4), .int Z.1])
  | 1 => .inl (4, 20, .inr (.inr (.inr (.inr Z.2.1))))
  | 2 => .inl (0, 20, .inl Z.2.2.1)
  | 3 => .inl (0, 20, .inl Z.2.2.2.1)
  | _ => .inl (5, 20, .inr (.inr (.inr (.inr Z.2.2.2.2))))
/-- l: the line's length, p: the place in it, n: the artifacts' number, u: the culprit, c: the line, A: the artifacts, s, d: which list is the result, which the draft -/
def cb_cell (x : Nat) (l p n u : Int32) (c : Nat → Int32) (A : Nat → Option Nat) (s d : Nat) (E : Nat → ES) (q : Nat) : hp_E := match q with
  | 0 => .inr (0, [.ref (x + 1), .ref (x + 3), .int n, .ref (x + 4 + 5 * s), .ref (x + 4 + 5 * d), .int u])
  | 1 => .inr (1, [.ref (x + 2), .int l, .int p])
  | 2 => .inl (2, 40, .inl c)
  | 3 => .inl (4, 20, .inr (.inr (.inr (.inr A))))
  | q + 4 => el_cell (x + 4 + 5 * (q / 5)) (E (q / 5)) (q % 5)
def cb (g : hp_H) (x : Nat) (l p n u : Int32) (c : Nat → Int32) (A : Nat → Option Nat) (s d : Nat) (E : Nat → ES) : hp_H := (fun q => if x ≤ q ∧ q < x + 14 then some (cb_cell x l p n u c A s d E (q - x)) else g.1 q, g.2)
section CBR
variable {g : hp_H} {x : Nat} {l p n u l' p' n' u' : Int32} {c c' : Nat → Int32} {A A' : Nat → Option Nat} {s d s' d' : Nat} {E E' : Nat → ES}
theorem cb_at {q : Nat} (hq : q < 14) : (cb g x l p n u c A s d E).1 (x + q) = some (cb_cell x l p n u c A s d E q) := by
  show (if x ≤ x + q ∧ x + q < x + 14 then some (cb_cell x l p n u c A s d E (x + q - x)) else g.1 (x + q)) = _
  rw [if_pos ⟨by omega, by omega⟩, Nat.add_sub_cancel_left]
theorem cb_out {a : Nat} (ha : x + 14 ≤ a) : (cb g x l p n u c A s d E).1 a = g.1 a := by
  show (if x ≤ a ∧ a < x + 14 then _ else g.1 a) = _
  rw [if_neg (by omega)]
theorem cb_2 : (cb g x l p n u c A s d E).2 = g.2 := rfl
theorem cb_push {e : hp_E} (hx : x + 14 ≤ g.2) : hp_push (cb g x l p n u c A s d E) e = cb (hp_push g e) x l p n u c A s d E := by
  refine Prod.ext (funext fun q => ?_) rfl
  show (if q = g.2 then some e else if x ≤ q ∧ q < x + 14 then _ else g.1 q) = (if x ≤ q ∧ q < x + 14 then _ else if q = g.2 then some e else g.1 q)
  by_cases h1 : q = g.2
  · rw [if_pos h1, if_neg (by omega), if_pos h1]
  · rw [if_neg h1]
    by_cases h2 : x ≤ q ∧ q < x + 14
    · rw [if_pos h2, if_pos h2]
    · rw [if_neg h2, if_neg h2, if_neg h1]
/-- a cell outside the block changed -/
theorem cb_hup {e : hp_E} {a : Nat} (ha : x + 14 ≤ a) : hp_up (cb g x l p n u c A s d E) a e = cb (hp_up g a e) x l p n u c A s d E := by
  refine Prod.ext (funext fun q => ?_) rfl
  show (if q = a then some e else if x ≤ q ∧ q < x + 14 then _ else g.1 q) = (if x ≤ q ∧ q < x + 14 then _ else if q = a then some e else g.1 q)
  by_cases h1 : q = a
  · rw [if_pos h1, if_neg (by omega), if_pos h1]
  · rw [if_neg h1]
    by_cases h2 : x ≤ q ∧ q < x + 14
    · rw [if_pos h2, if_pos h2]
    · rw [if_neg h2, if_neg h2, if_neg h1]
theorem cb_up {q : Nat} {e : hp_E} (hq : q < 14) (he : cb_cell x l' p' n' u' c' A' s' d' E' q = e) (ho : ∀ i, i ≠ q → i < 14 → cb_cell x l' p' n' u' c' A' s' d' E' i = cb_cell x l p n u c A s d E i) : hp_up (cb g x l p n u c A s d E) (x + q) e = cb g x l' p' n' u' c' A' s' d' E' := by
  refine Prod.ext (funext fun a => ?_) rfl
  show (if a = x + q then some e else if x ≤ a ∧ a < x + 14 then some (cb_cell x l p n u c A s d E (a - x)) else g.1 a) = (if x ≤ a ∧ a < x + 14 then some (cb_cell x l' p' n' u' c' A' s' d' E' (a - x)) else g.1 a)
  by_cases h1 : a = x + q
  · rw [if_pos h1, if_pos (by omega), h1, Nat.add_sub_cancel_left, he]
  · rw [if_neg h1]
    by_cases h2 : x ≤ a ∧ a < x + 14
    · rw [if_pos h2, if_pos h2, ho (a - x) (by omega) (by omega)]
    · rw [if_neg h2, if_neg h2]
theorem cb_c0 : (cb g x l p n u c A s d E).1 x = some (.inr (0, [.ref (x + 1), .ref (x + 3), .int n, .ref (x + 4 + 5 * s), .ref (x + 4 + 5 * d), .int u])) := cb_at (q := 0) (by decide)
theorem cb_c1 : (cb g x l p n u c A s d E).1 (x + 1) = some (.inr (1, [.ref (x + 2), .int l, .int p])) := cb_at (q := 1) (by decide)
theorem cb_c2 : (cb g x l p n u c A s d E).1 (x + 2) = some (.inl (2, 40, .inl c)) := cb_at (q := 2) (by decide)
theorem cb_c3 : (cb g x l p n u c A s d E).1 (x + 3) = some (.inl (4, 20, .inr (.inr (.inr (.inr A))))) := cb_at (q := 3) (by decide)
theorem cb_e {j k : Nat} (hj : j ≤ 1) (hk : k < 5) : (cb g x l p n u c A s d E).1 (x + 4 + 5 * j + k) = some (el_cell (x + 4 + 5 * j) (E j) k) := by
  rw [show x + 4 + 5 * j + k = x + (5 * j + k + 4) by omega, cb_at (by omega)]
  show some (el_cell (x + 4 + 5 * ((5 * j + k) / 5)) (E ((5 * j + k) / 5)) ((5 * j + k) % 5)) = _
  rw [show (5 * j + k) / 5 = j by omega, show (5 * j + k) % 5 = k by omega]
theorem cb_e0 {j : Nat} (hj : j ≤ 1) : (cb g x l p n u c A s d E).1 (x + 4 + 5 * j) = some (.inr (2, [.ref (x + 4 + 5 * j + 1), .ref (x + 4 + 5 * j + 2), .ref (x + 4 + 5 * j + 3), .ref (x + 4 + 5 * j + 4), .int (E j).1])) := cb_e (k := 0) hj (by decide)
theorem cb_e1 {j : Nat} (hj : j ≤ 1) : (cb g x l p n u c A s d E).1 (x + 4 + 5 * j + 1) = some (.inl (4, 20, .inr (.inr (.inr (.inr (E j).2.1))))) := cb_e (k := 1) hj (by decide)
theorem cb_e2 {j : Nat} (hj : j ≤ 1) : (cb g x l p n u c A s d E).1 (x + 4 + 5 * j + 2) = some (.inl (0, 20, .inl (E j).2.2.1)) := cb_e (k := 2) hj (by decide)
theorem cb_e3 {j : Nat} (hj : j ≤ 1) : (cb g x l p n u c A s d E).1 (x + 4 + 5 * j + 3) = some (.inl (0, 20, .inl (E j).2.2.2.1)) := cb_e (k := 3) hj (by decide)
theorem cb_e4 {j : Nat} (hj : j ≤ 1) : (cb g x l p n u c A s d E).1 (x + 4 + 5 * j + 4) = some (.inl (5, 20, .inr (.inr (.inr (.inr (E j).2.2.2.2))))) := cb_e (k := 4) hj (by decide)
theorem cb_r0 : hp_fR (cb g x l p n u c A s d E) (some x) 0 0 = some (some (x + 1)) := hp_fR_ref cb_c0 rfl
theorem cb_r1 : hp_fR (cb g x l p n u c A s d E) (some x) 0 1 = some (some (x + 3)) := hp_fR_ref cb_c0 rfl
theorem cb_r2 : hp_fI (cb g x l p n u c A s d E) (some x) 0 2 = some n := hp_fI_of cb_c0 rfl
theorem cb_r3 : hp_fR (cb g x l p n u c A s d E) (some x) 0 3 = some (some (x + 4 + 5 * s)) := hp_fR_ref cb_c0 rfl
theorem cb_r4 : hp_fR (cb g x l p n u c A s d E) (some x) 0 4 = some (some (x + 4 + 5 * d)) := hp_fR_ref cb_c0 rfl
theorem cb_r5 : hp_fI (cb g x l p n u c A s d E) (some x) 0 5 = some u := hp_fI_of cb_c0 rfl
theorem cb_o0 : hp_o (cb g x l p n u c A s d E) (some x) 0 = some x := hp_o_of cb_c0
theorem cb_l0 : hp_fR (cb g x l p n u c A s d E) (some (x + 1)) 1 0 = some (some (x + 2)) := hp_fR_ref cb_c1 rfl
theorem cb_l1 : hp_fI (cb g x l p n u c A s d E) (some (x + 1)) 1 1 = some l := hp_fI_of cb_c1 rfl
theorem cb_l2 : hp_fI (cb g x l p n u c A s d E) (some (x + 1)) 1 2 = some p := hp_fI_of cb_c1 rfl
theorem cb_o1 : hp_o (cb g x l p n u c A s d E) (some (x + 1)) 1 = some (x + 1) := hp_o_of cb_c1
theorem cb_la (i : Int32) : hp_aI (cb g x l p n u c A s d E) (some (x + 2)) 2 i = (hp_ix i 40).map c := hp_aI_of i cb_c2
theorem cb_aa (i : Int32) : hp_aR (cb g x l p n u c A s d E) (some (x + 3)) 4 i = (hp_ix i 20).map A := hp_aR_of i cb_c3
theorem cb_q0 {j : Nat} (hj : j ≤ 1) : hp_fR (cb g x l p n u c A s d E) (some (x + 4 + 5 * j)) 2 0 = some (some (x + 4 + 5 * j + 1)) := hp_fR_ref (cb_e0 hj) rfl
theorem cb_q1 {j : Nat} (hj : j ≤ 1) : hp_fR (cb g x l p n u c A s d E) (some (x + 4 + 5 * j)) 2 1 = some (some (x + 4 + 5 * j + 2)) := hp_fR_ref (cb_e0 hj) rfl
theorem cb_q2 {j : Nat} (hj : j ≤ 1) : hp_fR (cb g x l p n u c A s d E) (some (x + 4 + 5 * j)) 2 2 = some (some (x + 4 + 5 * j + 3)) := hp_fR_ref (cb_e0 hj) rfl
theorem cb_q3 {j : Nat} (hj : j ≤ 1) : hp_fR (cb g x l p n u c A s d E) (some (x + 4 + 5 * j)) 2 3 = some (some (x + 4 + 5 * j + 4)) := hp_fR_ref (cb_e0 hj) rfl
theorem cb_q4 {j : Nat} (hj : j ≤ 1) : hp_fI (cb g x l p n u c A s d E) (some (x + 4 + 5 * j)) 2 4 = some (E j).1 := hp_fI_of (cb_e0 hj) rfl
theorem cb_o2 {j : Nat} (hj : j ≤ 1) : hp_o (cb g x l p n u c A s d E) (some (x + 4 + 5 * j)) 2 = some (x + 4 + 5 * j) := hp_o_of (cb_e0 hj)
theorem cb_w2 {v : Int32} : hp_s (cb g x l p n u c A s d E) (some x) 0 2 (.int v) = some (cb g x l p v u c A s d E) := by
  rw [hp_s_of cb_c0 (by simp)]
  refine congrArg some (cb_up (q := 0) (by decide) rfl ?_)
  · intro i h0 _
    match i, h0 with
    | 0, h0 => exact absurd rfl h0
    | 1, h0 => rfl
    | 2, h0 => rfl
    | 3, h0 => rfl
    | i + 4, _ => rfl
theorem cb_w5 {v : Int32} : hp_s (cb g x l p n u c A s d E) (some x) 0 5 (.int v) = some (cb g x l p n v c A s d E) := by
  rw [hp_s_of cb_c0 (by simp)]
  refine congrArg some (cb_up (q := 0) (by decide) rfl ?_)
  · intro i h0 _
    match i, h0 with
    | 0, h0 => exact absurd rfl h0
    | 1, h0 => rfl
    | 2, h0 => rfl
    | 3, h0 => rfl
    | i + 4, _ => rfl
theorem cb_w3 {v : Nat} : hp_s (cb g x l p n u c A s d E) (some x) 0 3 (va_rf (some (x + 4 + 5 * v))) = some (cb g x l p n u c A v d E) := by
  rw [hp_s_of cb_c0 (by simp)]
  refine congrArg some (cb_up (q := 0) (by decide) rfl ?_)
  · intro i h0 _
    match i, h0 with
    | 0, h0 => exact absurd rfl h0
    | 1, h0 => rfl
    | 2, h0 => rfl
    | 3, h0 => rfl
    | i + 4, _ => rfl
theorem cb_w4 {v : Nat} : hp_s (cb g x l p n u c A s d E) (some x) 0 4 (va_rf (some (x + 4 + 5 * v))) = some (cb g x l p n u c A s v E) := by
  rw [hp_s_of cb_c0 (by simp)]
  refine congrArg some (cb_up (q := 0) (by decide) rfl ?_)
  · intro i h0 _
    match i, h0 with
    | 0, h0 => exact absurd rfl h0
    | 1, h0 => rfl
    | 2, h0 => rfl
    | 3, h0 => rfl
    | i + 4, _ => rfl
theorem cb_v1 {v : Int32} : hp_s (cb g x l p n u c A s d E) (some (x + 1)) 1 1 (.int v) = some (cb g x v p n u c A s d E) := by
  rw [hp_s_of cb_c1 (by simp)]
  refine congrArg some (cb_up (q := 1) (by decide) rfl ?_)
  · intro i h0 _
    match i, h0 with
    | 0, h0 => rfl
    | 1, h0 => exact absurd rfl h0
    | 2, h0 => rfl
    | 3, h0 => rfl
    | i + 4, _ => rfl
theorem cb_v2 {v : Int32} : hp_s (cb g x l p n u c A s d E) (some (x + 1)) 1 2 (.int v) = some (cb g x l v n u c A s d E) := by
  rw [hp_s_of cb_c1 (by simp)]
  refine congrArg some (cb_up (q := 1) (by decide) rfl ?_)
  · intro i h0 _
    match i, h0 with
    | 0, h0 => rfl
    | 1, h0 => exact absurd rfl h0
    | 2, h0 => rfl
    | 3, h0 => rfl
    | i + 4, _ => rfl
theorem cb_ls {j : Nat} {v : Int32} (hj : j < 40) : hp_sI (cb g x l p n u c A s d E) (some (x + 2)) 2 (nI j) v = some (cb g x l p n u (va_up c j v) A s d E) := by
  rw [hp_sI_at cb_c2 hj (by decide)]
  refine congrArg some (cb_up (q := 2) (by decide) rfl ?_)
  · intro i h0 _
    match i, h0 with
    | 0, h0 => rfl
    | 1, h0 => rfl
    | 2, h0 => exact absurd rfl h0
    | 3, h0 => rfl
    | i + 4, _ => rfl
theorem cb_as {j : Nat} {v : Option Nat} (hj : j < 20) (hv : hp_is (cb g x l p n u c A s d E) v 3 = true) : hp_sR (cb g x l p n u c A s d E) (some (x + 3)) 4 3 (nI j) v = some (cb g x l p n u c (va_up A j v) s d E) := by
  rw [hp_sR_at cb_c3 hv hj (by decide)]
  refine congrArg some (cb_up (q := 3) (by decide) rfl ?_)
  · intro i h0 _
    match i, h0 with
    | 0, h0 => rfl
    | 1, h0 => rfl
    | 2, h0 => rfl
    | 3, h0 => exact absurd rfl h0
    | i + 4, _ => rfl
theorem cb_eup {j k : Nat} {Z : ES} (hj : j ≤ 1) (hk : k < 5) (ho : ∀ i, i ≠ k → i < 5 → el_cell (x + 4 + 5 * j) Z i = el_cell (x + 4 + 5 * j) (E j) i) : hp_up (cb g x l p n u c A s d E) (x + 4 + 5 * j + k) (el_cell (x + 4 + 5 * j) Z k) = cb g x l p n u c A s d (va_up E j Z) := by
  rw [show x + 4 + 5 * j + k = x + (5 * j + k + 4) by omega]
  refine cb_up (by omega) ?_ ?_
  · show el_cell (x + 4 + 5 * ((5 * j + k) / 5)) (va_up E j Z ((5 * j + k) / 5)) ((5 * j + k) % 5) = _
    rw [show (5 * j + k) / 5 = j by omega, show (5 * j + k) % 5 = k by omega, va_up_self]
  · intro i h0 h1
    match i, h0, h1 with
    | 0, _, _ => rfl
    | 1, _, _ => rfl
    | 2, _, _ => rfl
    | 3, _, _ => rfl
    | i + 4, h0, h1 =>
      show el_cell (x + 4 + 5 * (i / 5)) (va_up E j Z (i / 5)) (i % 5) = el_cell (x + 4 + 5 * (i / 5)) (E (i / 5)) (i % 5)
      by_cases hij : i / 5 = j
      · rw [hij, va_up_self]
        exact ho (i % 5) (by omega) (by omega)
      · rw [va_up_ne _ _ hij]
theorem cb_x4 {j : Nat} {v : Int32} (hj : j ≤ 1) : hp_s (cb g x l p n u c A s d E) (some (x + 4 + 5 * j)) 2 4 (.int v) = some (cb g x l p n u c A s d (va_up E j (v, (E j).2))) := by
  rw [hp_s_of (cb_e0 hj) (by simp)]
  refine congrArg some (cb_eup (k := 0) (Z := (v, (E j).2)) hj (by decide) ?_)
  · intro i h0 h1
    match i, h0, h1 with
    | 0, h0, _ => exact absurd rfl h0
    | 1, h0, _ => rfl
    | 2, h0, _ => rfl
    | 3, h0, _ => rfl
    | 4, h0, _ => rfl
    | i + 5, _, h1 => omega
theorem cb_x1 {j i : Nat} {v : Option Nat} (hj : j ≤ 1) (hi : i < 20) (hv : hp_is (cb g x l p n u c A s d E) v 3 = true) : hp_sR (cb g x l p n u c A s d E) (some (x + 4 + 5 * j + 1)) 4 3 (nI i) v = some (cb g x l p n u c A s d (va_up E j ((E j).1, va_up (E j).2.1 i v, (E j).2.2))) := by
  rw [hp_sR_at (cb_e1 hj) hv hi (by decide)]
  refine congrArg some (cb_eup (k := 1) (Z := ((E j).1, va_up (E j).2.1 i v, (E j).2.2)) hj (by decide) ?_)
  · intro i h0 h1
    match i, h0, h1 with
    | 0, h0, _ => rfl
    | 1, h0, _ => exact absurd rfl h0
    | 2, h0, _ => rfl
    | 3, h0, _ => rfl
    | 4, h0, _ => rfl
    | i + 5, _, h1 => omega
theorem cb_x2 {j i : Nat} {v : Int32} (hj : j ≤ 1) (hi : i < 20) : hp_sI (cb g x l p n u c A s d E) (some (x + 4 + 5 * j + 2)) 0 (nI i) v = some (cb g x l p n u c A s d (va_up E j ((E j).1, (E j).2.1, va_up (E j).2.2.1 i v, (E j).2.2.2))) := by
  rw [hp_sI_at (cb_e2 hj) hi (by decide)]
  refine congrArg some (cb_eup (k := 2) (Z := ((E j).1, (E j).2.1, va_up (E j).2.2.1 i v, (E j).2.2.2)) hj (by decide) ?_)
  · intro i h0 h1
    match i, h0, h1 with
    | 0, h0, _ => rfl
    | 1, h0, _ => rfl
    | 2, h0, _ => exact absurd rfl h0
    | 3, h0, _ => rfl
    | 4, h0, _ => rfl
    | i + 5, _, h1 => omega
theorem cb_x3 {j i : Nat} {v : Int32} (hj : j ≤ 1) (hi : i < 20) : hp_sI (cb g x l p n u c A s d E) (some (x + 4 + 5 * j + 3)) 0 (nI i) v = some (cb g x l p n u c A s d (va_up E j ((E j).1, (E j).2.1, (E j).2.2.1, va_up (E j).2.2.2.1 i v, (E j).2.2.2.2))) := by
  rw [hp_sI_at (cb_e3 hj) hi (by decide)]
  refine congrArg some (cb_eup (k := 3) (Z := ((E j).1, (E j).2.1, (E j).2.2.1, va_up (E j).2.2.2.1 i v, (E j).2.2.2.2)) hj (by decide) ?_)
  · intro i h0 h1
    match i, h0, h1 with
    | 0, h0, _ => rfl
    | 1, h0, _ => rfl
    | 2, h0, _ => rfl
    | 3, h0, _ => exact absurd rfl h0
    | 4, h0, _ => rfl
    | i + 5, _, h1 => omega
theorem cb_xr {j i : Nat} {v : Option Nat} (hj : j ≤ 1) (hi : i < 20) (hv : hp_is (cb g x l p n u c A s d E) v 4 = true) : hp_sR (cb g x l p n u c A s d E) (some (x + 4 + 5 * j + 4)) 5 4 (nI i) v = some (cb g x l p n u c A s d (va_up E j ((E j).1, (E j).2.1, (E j).2.2.1, (E j).2.2.2.1, va_up (E j).2.2.2.2 i v))) := by
  rw [hp_sR_at (cb_e4 hj) hv hi (by decide)]
  refine congrArg some (cb_eup (k := 4) (Z := ((E j).1, (E j).2.1, (E j).2.2.1, (E j).2.2.2.1, va_up (E j).2.2.2.2 i v)) hj (by decide) ?_)
  · intro i h0 h1
    match i, h0, h1 with
    | 0, h0, _ => rfl
    | 1, h0, _ => rfl
    | 2, h0, _ => rfl
    | 3, h0, _ => rfl
    | 4, h0, _ => exact absurd rfl h0
    | i + 5, _, h1 => omega
end CBR
