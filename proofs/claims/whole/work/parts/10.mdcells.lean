/-! ===== the reference as one block of cells: its ints S.1 and its arrays S.2, by the places of its fields ===== -/
abbrev MS : Type := (Nat → Int32) × (Nat → Nat → Int32)
def md_obj (m : Nat) (S : MS) : List Value := [.int (S.1 0), .ref (m + 1), .int (S.1 2), .ref (m + 2), .int (S.1 4), .ref (m + 3), .ref (m + 4), .ref (m + 5), .ref (m + 6), .ref (m + 7), .ref (m + 8), .ref (m + 9), .ref (m + 10), .ref (m + 11), .ref (m + 12), .ref (m + 13), .ref (m + 14), .int (S.1 17), .int (S.1 18), .int (S.1 19), .ref (m + 15), .ref (m + 16), .ref (m + 17), .ref (m + 18), .ref (m + 19), .int (S.1 25), .ref (m + 20), .int (S.1 27), .int (S.1 28)]
def md_cell (m : Nat) (S : MS) (j : Nat) : hp_E := match j with
  | 0 => .inr (7, md_obj m S)
  | 1 => .inl (0, 40, .inl (S.2 1))
  | 2 => .inl (0, 40, .inl (S.2 3))
  | 3 => .inl (0, 20, .inl (S.2 5))
  | 4 => .inl (0, 420, .inl (S.2 6))
  | 5 => .inl (0, 20, .inl (S.2 7))
  | 6 => .inl (3, 20, .inl (S.2 8))
  | 7 => .inl (0, 20, .inl (S.2 9))
  | 8 => .inl (0, 20, .inl (S.2 10))
  | 9 => .inl (3, 120, .inl (S.2 11))
  | 10 => .inl (0, 120, .inl (S.2 12))
  | 11 => .inl (0, 4800, .inl (S.2 13))
  | 12 => .inl (0, 120, .inl (S.2 14))
  | 13 => .inl (0, 360, .inl (S.2 15))
  | 14 => .inl (0, 2880, .inl (S.2 16))
  | 15 => .inl (0, 40, .inl (S.2 20))
  | 16 => .inl (0, 40, .inl (S.2 21))
  | 17 => .inl (0, 40, .inl (S.2 22))
  | 18 => .inl (0, 40, .inl (S.2 23))
  | 19 => .inl (0, 40, .inl (S.2 24))
  | _ => .inl (0, 40, .inl (S.2 26))
def md_set (h : hp_H) (m : Nat) (S : MS) : hp_H := (fun q => if m ≤ q ∧ q ≤ m + 20 then some (md_cell m S (q - m)) else h.1 q, h.2)
theorem md_at (h : hp_H) (m : Nat) (S : MS) (j : Nat) (hj : j ≤ 20) : (md_set h m S).1 (m + j) = some (md_cell m S j) := by
  show (if m ≤ m + j ∧ m + j ≤ m + 20 then some (md_cell m S (m + j - m)) else h.1 (m + j)) = _
  rw [if_pos ⟨by omega, by omega⟩, Nat.add_sub_cancel_left]
theorem md_at0 (h : hp_H) (m : Nat) (S : MS) : (md_set h m S).1 m = some (.inr (7, md_obj m S)) := md_at h m S 0 (by omega)
theorem md_up (h : hp_H) (m : Nat) (S S2 : MS) (j : Nat) (e : hp_E) (hj : j ≤ 20) (he : md_cell m S2 j = e) (ho : ∀ i, i ≠ j → i ≤ 20 → md_cell m S2 i = md_cell m S i) : hp_up (md_set h m S) (m + j) e = md_set h m S2 := by
  refine Prod.ext (funext fun q => ?_) rfl
  show (if q = m + j then some e else (if m ≤ q ∧ q ≤ m + 20 then some (md_cell m S (q - m)) else h.1 q)) = (if m ≤ q ∧ q ≤ m + 20 then some (md_cell m S2 (q - m)) else h.1 q)
  by_cases hq : q = m + j
  · subst hq
    rw [if_pos rfl, if_pos ⟨by omega, by omega⟩, Nat.add_sub_cancel_left, he]
  · rw [if_neg hq]
    by_cases hr : m ≤ q ∧ q ≤ m + 20
    · rw [if_pos hr, if_pos hr, ho (q - m) (by omega) (by omega)]
    · rw [if_neg hr, if_neg hr]
theorem md_cell_1 {m : Nat} {S : MS} {f : Nat → Int32} {i : Nat} (h0 : i ≠ 0) : md_cell m (f, S.2) i = md_cell m S i := by
  unfold md_cell
  split
  · exact absurd rfl h0
  all_goals rfl
section MDR
variable {h : hp_H} {m : Nat} {S : MS} {i x : Int32}
theorem md_o : hp_o (md_set h m S) (some m) 7 = some m := by
  simp [hp_o, md_at0]
theorem md_i0 : hp_fI (md_set h m S) (some m) 7 0 = some (S.1 0) := by
  simp [hp_fI, hp_f, md_at0, md_obj, hp_vI]
theorem md_w0 : hp_s (md_set h m S) (some m) 7 0 (.int x) = some (md_set h m (va_up S.1 0 x, S.2)) := by
  simp only [hp_s, md_at0, Option.bind_some]
  rw [if_pos ⟨trivial, by simp [md_obj]⟩]
  refine congrArg some (md_up h m S (va_up S.1 0 x, S.2) 0 _ (by omega) ?_ ?_)
  · simp [md_cell, md_obj, va_up]
  · exact fun i h0 _ => md_cell_1 h0
theorem md_i2 : hp_fI (md_set h m S) (some m) 7 2 = some (S.1 2) := by
  simp [hp_fI, hp_f, md_at0, md_obj, hp_vI]
theorem md_w2 : hp_s (md_set h m S) (some m) 7 2 (.int x) = some (md_set h m (va_up S.1 2 x, S.2)) := by
  simp only [hp_s, md_at0, Option.bind_some]
  rw [if_pos ⟨trivial, by simp [md_obj]⟩]
  refine congrArg some (md_up h m S (va_up S.1 2 x, S.2) 0 _ (by omega) ?_ ?_)
  · simp [md_cell, md_obj, va_up]
  · exact fun i h0 _ => md_cell_1 h0
theorem md_i4 : hp_fI (md_set h m S) (some m) 7 4 = some (S.1 4) := by
  simp [hp_fI, hp_f, md_at0, md_obj, hp_vI]
theorem md_w4 : hp_s (md_set h m S) (some m) 7 4 (.int x) = some (md_set h m (va_up S.1 4 x, S.2)) := by
  simp only [hp_s, md_at0, Option.bind_some]
  rw [if_pos ⟨trivial, by simp [md_obj]⟩]
  refine congrArg some (md_up h m S (va_up S.1 4 x, S.2) 0 _ (by omega) ?_ ?_)
  · simp [md_cell, md_obj, va_up]
  · exact fun i h0 _ => md_cell_1 h0
theorem md_i17 : hp_fI (md_set h m S) (some m) 7 17 = some (S.1 17) := by
  simp [hp_fI, hp_f, md_at0, md_obj, hp_vI]
theorem md_w17 : hp_s (md_set h m S) (some m) 7 17 (.int x) = some (md_set h m (va_up S.1 17 x, S.2)) := by
  simp only [hp_s, md_at0, Option.bind_some]
  rw [if_pos ⟨trivial, by simp [md_obj]⟩]
  refine congrArg some (md_up h m S (va_up S.1 17 x, S.2) 0 _ (by omega) ?_ ?_)
  · simp [md_cell, md_obj, va_up]
  · exact fun i h0 _ => md_cell_1 h0
theorem md_i18 : hp_fI (md_set h m S) (some m) 7 18 = some (S.1 18) := by
  simp [hp_fI, hp_f, md_at0, md_obj, hp_vI]
theorem md_w18 : hp_s (md_set h m S) (some m) 7 18 (.int x) = some (md_set h m (va_up S.1 18 x, S.2)) := by
  simp only [hp_s, md_at0, Option.bind_some]
  rw [if_pos ⟨trivial, by simp [md_obj]⟩]
  refine congrArg some (md_up h m S (va_up S.1 18 x, S.2) 0 _ (by omega) ?_ ?_)
  · simp [md_cell, md_obj, va_up]
  · exact fun i h0 _ => md_cell_1 h0
theorem md_i19 : hp_fI (md_set h m S) (some m) 7 19 = some (S.1 19) := by
  simp [hp_fI, hp_f, md_at0, md_obj, hp_vI]
theorem md_w19 : hp_s (md_set h m S) (some m) 7 19 (.int x) = some (md_set h m (va_up S.1 19 x, S.2)) := by
  simp only [hp_s, md_at0, Option.bind_some]
  rw [if_pos ⟨trivial, by simp [md_obj]⟩]
  refine congrArg some (md_up h m S (va_up S.1 19 x, S.2) 0 _ (by omega) ?_ ?_)
  · simp [md_cell, md_obj, va_up]
  · exact fun i h0 _ => md_cell_1 h0
theorem md_i25 : hp_fI (md_set h m S) (some m) 7 25 = some (S.1 25) := by
  simp [hp_fI, hp_f, md_at0, md_obj, hp_vI]
theorem md_w25 : hp_s (md_set h m S) (some m) 7 25 (.int x) = some (md_set h m (va_up S.1 25 x, S.2)) := by
  simp only [hp_s, md_at0, Option.bind_some]
  rw [if_pos ⟨trivial, by simp [md_obj]⟩]
  refine congrArg some (md_up h m S (va_up S.1 25 x, S.2) 0 _ (by omega) ?_ ?_)
  · simp [md_cell, md_obj, va_up]
  · exact fun i h0 _ => md_cell_1 h0
theorem md_i27 : hp_fI (md_set h m S) (some m) 7 27 = some (S.1 27) := by
  simp [hp_fI, hp_f, md_at0, md_obj, hp_vI]
theorem md_w27 : hp_s (md_set h m S) (some m) 7 27 (.int x) = some (md_set h m (va_up S.1 27 x, S.2)) := by
  simp only [hp_s, md_at0, Option.bind_some]
  rw [if_pos ⟨trivial, by simp [md_obj]⟩]
  refine congrArg some (md_up h m S (va_up S.1 27 x, S.2) 0 _ (by omega) ?_ ?_)
  · simp [md_cell, md_obj, va_up]
  · exact fun i h0 _ => md_cell_1 h0
theorem md_i28 : hp_fI (md_set h m S) (some m) 7 28 = some (S.1 28) := by
  simp [hp_fI, hp_f, md_at0, md_obj, hp_vI]
theorem md_w28 : hp_s (md_set h m S) (some m) 7 28 (.int x) = some (md_set h m (va_up S.1 28 x, S.2)) := by
  simp only [hp_s, md_at0, Option.bind_some]
  rw [if_pos ⟨trivial, by simp [md_obj]⟩]
  refine congrArg some (md_up h m S (va_up S.1 28 x, S.2) 0 _ (by omega) ?_ ?_)
  · simp [md_cell, md_obj, va_up]
  · exact fun i h0 _ => md_cell_1 h0
theorem md_r1 : hp_fR (md_set h m S) (some m) 7 1 = some (some (m + 1)) := by
  simp [hp_fR, hp_f, md_at0, md_obj, hp_vR]
theorem md_a1 : hp_aI (md_set h m S) (some (m + 1)) 0 i = (hp_ix i 40).map (S.2 1) := by
  simp [hp_aI, hp_a, md_at h m S 1 (by omega), md_cell, hp_cI]
theorem md_s1 : hp_sI (md_set h m S) (some (m + 1)) 0 i x = (hp_ix i 40).map fun q => md_set h m (S.1, va_up S.2 1 (va_up (S.2 1) q x)) := by
  simp only [hp_sI, hp_a, md_at h m S 1 (by omega), Option.bind_some]
  simp only [md_cell, if_pos, Option.bind_some, hp_cI]
  congr 1
  funext q
  refine md_up h m S (S.1, va_up S.2 1 (va_up (S.2 1) q x)) 1 _ (by omega) ?_ ?_
  · simp [md_cell, va_up]
  · intro i h0 h1
    match i, h0 with
    | 0, h0 => rfl
    | 1, h0 => exact absurd rfl h0
    | 2, h0 => simp [md_cell, va_up]
    | 3, h0 => simp [md_cell, va_up]
    | 4, h0 => simp [md_cell, va_up]
    | 5, h0 => simp [md_cell, va_up]
    | 6, h0 => simp [md_cell, va_up]
    | 7, h0 => simp [md_cell, va_up]
    | 8, h0 => simp [md_cell, va_up]
    | 9, h0 => simp [md_cell, va_up]
    | 10, h0 => simp [md_cell, va_up]
    | 11, h0 => simp [md_cell, va_up]
    | 12, h0 => simp [md_cell, va_up]
    | 13, h0 => simp [md_cell, va_up]
    | 14, h0 => simp [md_cell, va_up]
    | 15, h0 => simp [md_cell, va_up]
    | 16, h0 => simp [md_cell, va_up]
    | 17, h0 => simp [md_cell, va_up]
    | 18, h0 => simp [md_cell, va_up]
    | 19, h0 => simp [md_cell, va_up]
    | 20, h0 => simp [md_cell, va_up]
    | i + 21, _ => omega
theorem md_r3 : hp_fR (md_set h m S) (some m) 7 3 = some (some (m + 2)) := by
  simp [hp_fR, hp_f, md_at0, md_obj, hp_vR]
theorem md_a3 : hp_aI (md_set h m S) (some (m + 2)) 0 i = (hp_ix i 40).map (S.2 3) := by
  simp [hp_aI, hp_a, md_at h m S 2 (by omega), md_cell, hp_cI]
theorem md_s3 : hp_sI (md_set h m S) (some (m + 2)) 0 i x = (hp_ix i 40).map fun q => md_set h m (S.1, va_up S.2 3 (va_up (S.2 3) q x)) := by
  simp only [hp_sI, hp_a, md_at h m S 2 (by omega), Option.bind_some]
  simp only [md_cell, if_pos, Option.bind_some, hp_cI]
  congr 1
  funext q
  refine md_up h m S (S.1, va_up S.2 3 (va_up (S.2 3) q x)) 2 _ (by omega) ?_ ?_
  · simp [md_cell, va_up]
  · intro i h0 h1
    match i, h0 with
    | 0, h0 => rfl
    | 1, h0 => simp [md_cell, va_up]
    | 2, h0 => exact absurd rfl h0
    | 3, h0 => simp [md_cell, va_up]
    | 4, h0 => simp [md_cell, va_up]
    | 5, h0 => simp [md_cell, va_up]
    | 6, h0 => simp [md_cell, va_up]
    | 7, h0 => simp [md_cell, va_up]
    | 8, h0 => simp [md_cell, va_up]
    | 9, h0 => simp [md_cell, va_up]
    | 10, h0 => simp [md_cell, va_up]
    | 11, h0 => simp [md_cell, va_up]
    | 12, h0 => simp [md_cell, va_up]
    | 13, h0 => simp [md_cell, va_up]
    | 14, h0 => simp [md_cell, va_up]
    | 15, h0 => simp [md_cell, va_up]
    | 16, h0 => simp [md_cell, va_up]
    | 17, h0 => simp [md_cell, va_up]
    | 18, h0 => simp [md_cell, va_up]
    | 19, h0 => simp [md_cell, va_up]
    | 20, h0 => simp [md_cell, va_up]
    | i + 21, _ => omega
theorem md_r5 : hp_fR (md_set h m S) (some m) 7 5 = some (some (m + 3)) := by
  simp [hp_fR, hp_f, md_at0, md_obj, hp_vR]
theorem md_a5 : hp_aI (md_set h m S) (some (m + 3)) 0 i = (hp_ix i 20).map (S.2 5) := by
  simp [hp_aI, hp_a, md_at h m S 3 (by omega), md_cell, hp_cI]
theorem md_s5 : hp_sI (md_set h m S) (some (m + 3)) 0 i x = (hp_ix i 20).map fun q => md_set h m (S.1, va_up S.2 5 (va_up (S.2 5) q x)) := by
  simp only [hp_sI, hp_a, md_at h m S 3 (by omega), Option.bind_some]
  simp only [md_cell, if_pos, Option.bind_some, hp_cI]
  congr 1
  funext q
  refine md_up h m S (S.1, va_up S.2 5 (va_up (S.2 5) q x)) 3 _ (by omega) ?_ ?_
  · simp [md_cell, va_up]
  · intro i h0 h1
    match i, h0 with
    | 0, h0 => rfl
    | 1, h0 => simp [md_cell, va_up]
    | 2, h0 => simp [md_cell, va_up]
    | 3, h0 => exact absurd rfl h0
    | 4, h0 => simp [md_cell, va_up]
    | 5, h0 => simp [md_cell, va_up]
    | 6, h0 => simp [md_cell, va_up]
    | 7, h0 => simp [md_cell, va_up]
    | 8, h0 => simp [md_cell, va_up]
    | 9, h0 => simp [md_cell, va_up]
    | 10, h0 => simp [md_cell, va_up]
    | 11, h0 => simp [md_cell, va_up]
    | 12, h0 => simp [md_cell, va_up]
    | 13, h0 => simp [md_cell, va_up]
    | 14, h0 => simp [md_cell, va_up]
    | 15, h0 => simp [md_cell, va_up]
    | 16, h0 => simp [md_cell, va_up]
    | 17, h0 => simp [md_cell, va_up]
    | 18, h0 => simp [md_cell, va_up]
    | 19, h0 => simp [md_cell, va_up]
    | 20, h0 => simp [md_cell, va_up]
    | i + 21, _ => omega
theorem md_r6 : hp_fR (md_set h m S) (some m) 7 6 = some (some (m + 4)) := by
  simp [hp_fR, hp_f, md_at0, md_obj, hp_vR]
theorem md_a6 : hp_aI (md_set h m S) (some (m + 4)) 0 i = (hp_ix i 420).map (S.2 6) := by
  simp [hp_aI, hp_a, md_at h m S 4 (by omega), md_cell, hp_cI]
theorem md_s6 : hp_sI (md_set h m S) (some (m + 4)) 0 i x = (hp_ix i 420).map fun q => md_set h m (S.1, va_up S.2 6 (va_up (S.2 6) q x)) := by
  simp only [hp_sI, hp_a, md_at h m S 4 (by omega), Option.bind_some]
  simp only [md_cell, if_pos, Option.bind_some, hp_cI]
  congr 1
  funext q
  refine md_up h m S (S.1, va_up S.2 6 (va_up (S.2 6) q x)) 4 _ (by omega) ?_ ?_
  · simp [md_cell, va_up]
  · intro i h0 h1
    match i, h0 with
    | 0, h0 => rfl
    | 1, h0 => simp [md_cell, va_up]
    | 2, h0 => simp [md_cell, va_up]
    | 3, h0 => simp [md_cell, va_up]
    | 4, h0 => exact absurd rfl h0
    | 5, h0 => simp [md_cell, va_up]
    | 6, h0 => simp [md_cell, va_up]
    | 7, h0 => simp [md_cell, va_up]
    | 8, h0 => simp [md_cell, va_up]
    | 9, h0 => simp [md_cell, va_up]
    | 10, h0 => simp [md_cell, va_up]
    | 11, h0 => simp [md_cell, va_up]
    | 12, h0 => simp [md_cell, va_up]
    | 13, h0 => simp [md_cell, va_up]
    | 14, h0 => simp [md_cell, va_up]
    | 15, h0 => simp [md_cell, va_up]
    | 16, h0 => simp [md_cell, va_up]
    | 17, h0 => simp [md_cell, va_up]
    | 18, h0 => simp [md_cell, va_up]
    | 19, h0 => simp [md_cell, va_up]
    | 20, h0 => simp [md_cell, va_up]
    | i + 21, _ => omega
theorem md_r7 : hp_fR (md_set h m S) (some m) 7 7 = some (some (m + 5)) := by
  simp [hp_fR, hp_f, md_at0, md_obj, hp_vR]
theorem md_a7 : hp_aI (md_set h m S) (some (m + 5)) 0 i = (hp_ix i 20).map (S.2 7) := by
  simp [hp_aI, hp_a, md_at h m S 5 (by omega), md_cell, hp_cI]
theorem md_s7 : hp_sI (md_set h m S) (some (m + 5)) 0 i x = (hp_ix i 20).map fun q => md_set h m (S.1, va_up S.2 7 (va_up (S.2 7) q x)) := by
  simp only [hp_sI, hp_a, md_at h m S 5 (by omega), Option.bind_some]
  simp only [md_cell, if_pos, Option.bind_some, hp_cI]
  congr 1
  funext q
  refine md_up h m S (S.1, va_up S.2 7 (va_up (S.2 7) q x)) 5 _ (by omega) ?_ ?_
  · simp [md_cell, va_up]
  · intro i h0 h1
    match i, h0 with
    | 0, h0 => rfl
    | 1, h0 => simp [md_cell, va_up]
    | 2, h0 => simp [md_cell, va_up]
    | 3, h0 => simp [md_cell, va_up]
    | 4, h0 => simp [md_cell, va_up]
    | 5, h0 => exact absurd rfl h0
    | 6, h0 => simp [md_cell, va_up]
    | 7, h0 => simp [md_cell, va_up]
    | 8, h0 => simp [md_cell, va_up]
    | 9, h0 => simp [md_cell, va_up]
    | 10, h0 => simp [md_cell, va_up]
    | 11, h0 => simp [md_cell, va_up]
    | 12, h0 => simp [md_cell, va_up]
    | 13, h0 => simp [md_cell, va_up]
    | 14, h0 => simp [md_cell, va_up]
    | 15, h0 => simp [md_cell, va_up]
    | 16, h0 => simp [md_cell, va_up]
    | 17, h0 => simp [md_cell, va_up]
    | 18, h0 => simp [md_cell, va_up]
    | 19, h0 => simp [md_cell, va_up]
    | 20, h0 => simp [md_cell, va_up]
    | i + 21, _ => omega
theorem md_r8 : hp_fR (md_set h m S) (some m) 7 8 = some (some (m + 6)) := by
  simp [hp_fR, hp_f, md_at0, md_obj, hp_vR]
theorem md_a8 : hp_aI (md_set h m S) (some (m + 6)) 3 i = (hp_ix i 20).map (S.2 8) := by
  simp [hp_aI, hp_a, md_at h m S 6 (by omega), md_cell, hp_cI]
theorem md_s8 : hp_sI (md_set h m S) (some (m + 6)) 3 i x = (hp_ix i 20).map fun q => md_set h m (S.1, va_up S.2 8 (va_up (S.2 8) q x)) := by
  simp only [hp_sI, hp_a, md_at h m S 6 (by omega), Option.bind_some]
  simp only [md_cell, if_pos, Option.bind_some, hp_cI]
  congr 1
  funext q
  refine md_up h m S (S.1, va_up S.2 8 (va_up (S.2 8) q x)) 6 _ (by omega) ?_ ?_
  · simp [md_cell, va_up]
  · intro i h0 h1
    match i, h0 with
    | 0, h0 => rfl
    | 1, h0 => simp [md_cell, va_up]
    | 2, h0 => simp [md_cell, va_up]
    | 3, h0 => simp [md_cell, va_up]
    | 4, h0 => simp [md_cell, va_up]
    | 5, h0 => simp [md_cell, va_up]
    | 6, h0 => exact absurd rfl h0
    | 7, h0 => simp [md_cell, va_up]
    | 8, h0 => simp [md_cell, va_up]
    | 9, h0 => simp [md_cell, va_up]
    | 10, h0 => simp [md_cell, va_up]
    | 11, h0 => simp [md_cell, va_up]
    | 12, h0 => simp [md_cell, va_up]
    | 13, h0 => simp [md_cell, va_up]
    | 14, h0 => simp [md_cell, va_up]
    | 15, h0 => simp [md_cell, va_up]
    | 16, h0 => simp [md_cell, va_up]
    | 17, h0 => simp [md_cell, va_up]
    | 18, h0 => simp [md_cell, va_up]
    | 19, h0 => simp [md_cell, va_up]
    | 20, h0 => simp [md_cell, va_up]
    | i + 21, _ => omega
theorem md_r9 : hp_fR (md_set h m S) (some m) 7 9 = some (some (m + 7)) := by
  simp [hp_fR, hp_f, md_at0, md_obj, hp_vR]
theorem md_a9 : hp_aI (md_set h m S) (some (m + 7)) 0 i = (hp_ix i 20).map (S.2 9) := by
  simp [hp_aI, hp_a, md_at h m S 7 (by omega), md_cell, hp_cI]
theorem md_s9 : hp_sI (md_set h m S) (some (m + 7)) 0 i x = (hp_ix i 20).map fun q => md_set h m (S.1, va_up S.2 9 (va_up (S.2 9) q x)) := by
  simp only [hp_sI, hp_a, md_at h m S 7 (by omega), Option.bind_some]
  simp only [md_cell, if_pos, Option.bind_some, hp_cI]
  congr 1
  funext q
  refine md_up h m S (S.1, va_up S.2 9 (va_up (S.2 9) q x)) 7 _ (by omega) ?_ ?_
  · simp [md_cell, va_up]
  · intro i h0 h1
    match i, h0 with
    | 0, h0 => rfl
    | 1, h0 => simp [md_cell, va_up]
    | 2, h0 => simp [md_cell, va_up]
    | 3, h0 => simp [md_cell, va_up]
    | 4, h0 => simp [md_cell, va_up]
    | 5, h0 => simp [md_cell, va_up]
    | 6, h0 => simp [md_cell, va_up]
    | 7, h0 => exact absurd rfl h0
    | 8, h0 => simp [md_cell, va_up]
    | 9, h0 => simp [md_cell, va_up]
    | 10, h0 => simp [md_cell, va_up]
    | 11, h0 => simp [md_cell, va_up]
    | 12, h0 => simp [md_cell, va_up]
    | 13, h0 => simp [md_cell, va_up]
    | 14, h0 => simp [md_cell, va_up]
    | 15, h0 => simp [md_cell, va_up]
    | 16, h0 => simp [md_cell, va_up]
    | 17, h0 => simp [md_cell, va_up]
    | 18, h0 => simp [md_cell, va_up]
    | 19, h0 => simp [md_cell, va_up]
    | 20, h0 => simp [md_cell, va_up]
    | i + 21, _ => omega
theorem md_r10 : hp_fR (md_set h m S) (some m) 7 10 = some (some (m + 8)) := by
  simp [hp_fR, hp_f, md_at0, md_obj, hp_vR]
theorem md_a10 : hp_aI (md_set h m S) (some (m + 8)) 0 i = (hp_ix i 20).map (S.2 10) := by
  simp [hp_aI, hp_a, md_at h m S 8 (by omega), md_cell, hp_cI]
theorem md_s10 : hp_sI (md_set h m S) (some (m + 8)) 0 i x = (hp_ix i 20).map fun q => md_set h m (S.1, va_up S.2 10 (va_up (S.2 10) q x)) := by
  simp only [hp_sI, hp_a, md_at h m S 8 (by omega), Option.bind_some]
  simp only [md_cell, if_pos, Option.bind_some, hp_cI]
  congr 1
  funext q
  refine md_up h m S (S.1, va_up S.2 10 (va_up (S.2 10) q x)) 8 _ (by omega) ?_ ?_
  · simp [md_cell, va_up]
  · intro i h0 h1
    match i, h0 with
    | 0, h0 => rfl
    | 1, h0 => simp [md_cell, va_up]
    | 2, h0 => simp [md_cell, va_up]
    | 3, h0 => simp [md_cell, va_up]
    | 4, h0 => simp [md_cell, va_up]
    | 5, h0 => simp [md_cell, va_up]
    | 6, h0 => simp [md_cell, va_up]
    | 7, h0 => simp [md_cell, va_up]
    | 8, h0 => exact absurd rfl h0
    | 9, h0 => simp [md_cell, va_up]
    | 10, h0 => simp [md_cell, va_up]
    | 11, h0 => simp [md_cell, va_up]
    | 12, h0 => simp [md_cell, va_up]
    | 13, h0 => simp [md_cell, va_up]
    | 14, h0 => simp [md_cell, va_up]
    | 15, h0 => simp [md_cell, va_up]
    | 16, h0 => simp [md_cell, va_up]
    | 17, h0 => simp [md_cell, va_up]
    | 18, h0 => simp [md_cell, va_up]
    | 19, h0 => simp [md_cell, va_up]
    | 20, h0 => simp [md_cell, va_up]
    | i + 21, _ => omega
theorem md_r11 : hp_fR (md_set h m S) (some m) 7 11 = some (some (m + 9)) := by
  simp [hp_fR, hp_f, md_at0, md_obj, hp_vR]
theorem md_a11 : hp_aI (md_set h m S) (some (m + 9)) 3 i = (hp_ix i 120).map (S.2 11) := by
  simp [hp_aI, hp_a, md_at h m S 9 (by omega), md_cell, hp_cI]
theorem md_s11 : hp_sI (md_set h m S) (some (m + 9)) 3 i x = (hp_ix i 120).map fun q => md_set h m (S.1, va_up S.2 11 (va_up (S.2 11) q x)) := by
  simp only [hp_sI, hp_a, md_at h m S 9 (by omega), Option.bind_some]
  simp only [md_cell, if_pos, Option.bind_some, hp_cI]
  congr 1
  funext q
  refine md_up h m S (S.1, va_up S.2 11 (va_up (S.2 11) q x)) 9 _ (by omega) ?_ ?_
  · simp [md_cell, va_up]
  · intro i h0 h1
    match i, h0 with
    | 0, h0 => rfl
    | 1, h0 => simp [md_cell, va_up]
    | 2, h0 => simp [md_cell, va_up]
    | 3, h0 => simp [md_cell, va_up]
    | 4, h0 => simp [md_cell, va_up]
    | 5, h0 => simp [md_cell, va_up]
    | 6, h0 => simp [md_cell, va_up]
    | 7, h0 => simp [md_cell, va_up]
    | 8, h0 => simp [md_cell, va_up]
    | 9, h0 => exact absurd rfl h0
    | 10, h0 => simp [md_cell, va_up]
    | 11, h0 => simp [md_cell, va_up]
    | 12, h0 => simp [md_cell, va_up]
    | 13, h0 => simp [md_cell, va_up]
    | 14, h0 => simp [md_cell, va_up]
    | 15, h0 => simp [md_cell, va_up]
    | 16, h0 => simp [md_cell, va_up]
    | 17, h0 => simp [md_cell, va_up]
    | 18, h0 => simp [md_cell, va_up]
    | 19, h0 => simp [md_cell, va_up]
    | 20, h0 => simp [md_cell, va_up]
    | i + 21, _ => omega
theorem md_r12 : hp_fR (md_set h m S) (some m) 7 12 = some (some (m + 10)) := by
  simp [hp_fR, hp_f, md_at0, md_obj, hp_vR]
theorem md_a12 : hp_aI (md_set h m S) (some (m + 10)) 0 i = (hp_ix i 120).map (S.2 12) := by
  simp [hp_aI, hp_a, md_at h m S 10 (by omega), md_cell, hp_cI]
theorem md_s12 : hp_sI (md_set h m S) (some (m + 10)) 0 i x = (hp_ix i 120).map fun q => md_set h m (S.1, va_up S.2 12 (va_up (S.2 12) q x)) := by
  simp only [hp_sI, hp_a, md_at h m S 10 (by omega), Option.bind_some]
  simp only [md_cell, if_pos, Option.bind_some, hp_cI]
  congr 1
  funext q
  refine md_up h m S (S.1, va_up S.2 12 (va_up (S.2 12) q x)) 10 _ (by omega) ?_ ?_
  · simp [md_cell, va_up]
  · intro i h0 h1
    match i, h0 with
    | 0, h0 => rfl
    | 1, h0 => simp [md_cell, va_up]
    | 2, h0 => simp [md_cell, va_up]
    | 3, h0 => simp [md_cell, va_up]
    | 4, h0 => simp [md_cell, va_up]
    | 5, h0 => simp [md_cell, va_up]
    | 6, h0 => simp [md_cell, va_up]
    | 7, h0 => simp [md_cell, va_up]
    | 8, h0 => simp [md_cell, va_up]
    | 9, h0 => simp [md_cell, va_up]
    | 10, h0 => exact absurd rfl h0
    | 11, h0 => simp [md_cell, va_up]
    | 12, h0 => simp [md_cell, va_up]
    | 13, h0 => simp [md_cell, va_up]
    | 14, h0 => simp [md_cell, va_up]
    | 15, h0 => simp [md_cell, va_up]
    | 16, h0 => simp [md_cell, va_up]
    | 17, h0 => simp [md_cell, va_up]
    | 18, h0 => simp [md_cell, va_up]
    | 19, h0 => simp [md_cell, va_up]
    | 20, h0 => simp [md_cell, va_up]
    | i + 21, _ => omega
theorem md_r13 : hp_fR (md_set h m S) (some m) 7 13 = some (some (m + 11)) := by
  simp [hp_fR, hp_f, md_at0, md_obj, hp_vR]
theorem md_a13 : hp_aI (md_set h m S) (some (m + 11)) 0 i = (hp_ix i 4800).map (S.2 13) := by
  simp [hp_aI, hp_a, md_at h m S 11 (by omega), md_cell, hp_cI]
theorem md_s13 : hp_sI (md_set h m S) (some (m + 11)) 0 i x = (hp_ix i 4800).map fun q => md_set h m (S.1, va_up S.2 13 (va_up (S.2 13) q x)) := by
  simp only [hp_sI, hp_a, md_at h m S 11 (by omega), Option.bind_some]
  simp only [md_cell, if_pos, Option.bind_some, hp_cI]
  congr 1
  funext q
  refine md_up h m S (S.1, va_up S.2 13 (va_up (S.2 13) q x)) 11 _ (by omega) ?_ ?_
  · simp [md_cell, va_up]
  · intro i h0 h1
    match i, h0 with
    | 0, h0 => rfl
    | 1, h0 => simp [md_cell, va_up]
    | 2, h0 => simp [md_cell, va_up]
    | 3, h0 => simp [md_cell, va_up]
    | 4, h0 => simp [md_cell, va_up]
    | 5, h0 => simp [md_cell, va_up]
    | 6, h0 => simp [md_cell, va_up]
    | 7, h0 => simp [md_cell, va_up]
    | 8, h0 => simp [md_cell, va_up]
    | 9, h0 => simp [md_cell, va_up]
    | 10, h0 => simp [md_cell, va_up]
    | 11, h0 => exact absurd rfl h0
    | 12, h0 => simp [md_cell, va_up]
    | 13, h0 => simp [md_cell, va_up]
    | 14, h0 => simp [md_cell, va_up]
    | 15, h0 => simp [md_cell, va_up]
    | 16, h0 => simp [md_cell, va_up]
    | 17, h0 => simp [md_cell, va_up]
    | 18, h0 => simp [md_cell, va_up]
    | 19, h0 => simp [md_cell, va_up]
    | 20, h0 => simp [md_cell, va_up]
    | i + 21, _ => omega
theorem md_r14 : hp_fR (md_set h m S) (some m) 7 14 = some (some (m + 12)) := by
  simp [hp_fR, hp_f, md_at0, md_obj, hp_vR]
theorem md_a14 : hp_aI (md_set h m S) (some (m + 12)) 0 i = (hp_ix i 120).map (S.2 14) := by
  simp [hp_aI, hp_a, md_at h m S 12 (by omega), md_cell, hp_cI]
theorem md_s14 : hp_sI (md_set h m S) (some (m + 12)) 0 i x = (hp_ix i 120).map fun q => md_set h m (S.1, va_up S.2 14 (va_up (S.2 14) q x)) := by
  simp only [hp_sI, hp_a, md_at h m S 12 (by omega), Option.bind_some]
  simp only [md_cell, if_pos, Option.bind_some, hp_cI]
  congr 1
  funext q
  refine md_up h m S (S.1, va_up S.2 14 (va_up (S.2 14) q x)) 12 _ (by omega) ?_ ?_
  · simp [md_cell, va_up]
  · intro i h0 h1
    match i, h0 with
    | 0, h0 => rfl
    | 1, h0 => simp [md_cell, va_up]
    | 2, h0 => simp [md_cell, va_up]
    | 3, h0 => simp [md_cell, va_up]
    | 4, h0 => simp [md_cell, va_up]
    | 5, h0 => simp [md_cell, va_up]
    | 6, h0 => simp [md_cell, va_up]
    | 7, h0 => simp [md_cell, va_up]
    | 8, h0 => simp [md_cell, va_up]
    | 9, h0 => simp [md_cell, va_up]
    | 10, h0 => simp [md_cell, va_up]
    | 11, h0 => simp [md_cell, va_up]
    | 12, h0 => exact absurd rfl h0
    | 13, h0 => simp [md_cell, va_up]
    | 14, h0 => simp [md_cell, va_up]
    | 15, h0 => simp [md_cell, va_up]
    | 16, h0 => simp [md_cell, va_up]
    | 17, h0 => simp [md_cell, va_up]
    | 18, h0 => simp [md_cell, va_up]
    | 19, h0 => simp [md_cell, va_up]
    | 20, h0 => simp [md_cell, va_up]
    | i + 21, _ => omega
theorem md_r15 : hp_fR (md_set h m S) (some m) 7 15 = some (some (m + 13)) := by
  simp [hp_fR, hp_f, md_at0, md_obj, hp_vR]
theorem md_a15 : hp_aI (md_set h m S) (some (m + 13)) 0 i = (hp_ix i 360).map (S.2 15) := by
  simp [hp_aI, hp_a, md_at h m S 13 (by omega), md_cell, hp_cI]
theorem md_s15 : hp_sI (md_set h m S) (some (m + 13)) 0 i x = (hp_ix i 360).map fun q => md_set h m (S.1, va_up S.2 15 (va_up (S.2 15) q x)) := by
  simp only [hp_sI, hp_a, md_at h m S 13 (by omega), Option.bind_some]
  simp only [md_cell, if_pos, Option.bind_some, hp_cI]
  congr 1
  funext q
  refine md_up h m S (S.1, va_up S.2 15 (va_up (S.2 15) q x)) 13 _ (by omega) ?_ ?_
  · simp [md_cell, va_up]
  · intro i h0 h1
    match i, h0 with
    | 0, h0 => rfl
    | 1, h0 => simp [md_cell, va_up]
    | 2, h0 => simp [md_cell, va_up]
    | 3, h0 => simp [md_cell, va_up]
    | 4, h0 => simp [md_cell, va_up]
    | 5, h0 => simp [md_cell, va_up]
    | 6, h0 => simp [md_cell, va_up]
    | 7, h0 => simp [md_cell, va_up]
    | 8, h0 => simp [md_cell, va_up]
    | 9, h0 => simp [md_cell, va_up]
    | 10, h0 => simp [md_cell, va_up]
    | 11, h0 => simp [md_cell, va_up]
    | 12, h0 => simp [md_cell, va_up]
    | 13, h0 => exact absurd rfl h0
    | 14, h0 => simp [md_cell, va_up]
    | 15, h0 => simp [md_cell, va_up]
    | 16, h0 => simp [md_cell, va_up]
    | 17, h0 => simp [md_cell, va_up]
    | 18, h0 => simp [md_cell, va_up]
    | 19, h0 => simp [md_cell, va_up]
    | 20, h0 => simp [md_cell, va_up]
    | i + 21, _ => omega
theorem md_r16 : hp_fR (md_set h m S) (some m) 7 16 = some (some (m + 14)) := by
  simp [hp_fR, hp_f, md_at0, md_obj, hp_vR]
theorem md_a16 : hp_aI (md_set h m S) (some (m + 14)) 0 i = (hp_ix i 2880).map (S.2 16) := by
  simp [hp_aI, hp_a, md_at h m S 14 (by omega), md_cell, hp_cI]
theorem md_s16 : hp_sI (md_set h m S) (some (m + 14)) 0 i x = (hp_ix i 2880).map fun q => md_set h m (S.1, va_up S.2 16 (va_up (S.2 16) q x)) := by
  simp only [hp_sI, hp_a, md_at h m S 14 (by omega), Option.bind_some]
  simp only [md_cell, if_pos, Option.bind_some, hp_cI]
  congr 1
  funext q
  refine md_up h m S (S.1, va_up S.2 16 (va_up (S.2 16) q x)) 14 _ (by omega) ?_ ?_
  · simp [md_cell, va_up]
  · intro i h0 h1
    match i, h0 with
    | 0, h0 => rfl
    | 1, h0 => simp [md_cell, va_up]
    | 2, h0 => simp [md_cell, va_up]
    | 3, h0 => simp [md_cell, va_up]
    | 4, h0 => simp [md_cell, va_up]
    | 5, h0 => simp [md_cell, va_up]
    | 6, h0 => simp [md_cell, va_up]
    | 7, h0 => simp [md_cell, va_up]
    | 8, h0 => simp [md_cell, va_up]
    | 9, h0 => simp [md_cell, va_up]
    | 10, h0 => simp [md_cell, va_up]
    | 11, h0 => simp [md_cell, va_up]
    | 12, h0 => simp [md_cell, va_up]
    | 13, h0 => simp [md_cell, va_up]
    | 14, h0 => exact absurd rfl h0
    | 15, h0 => simp [md_cell, va_up]
    | 16, h0 => simp [md_cell, va_up]
    | 17, h0 => simp [md_cell, va_up]
    | 18, h0 => simp [md_cell, va_up]
    | 19, h0 => simp [md_cell, va_up]
    | 20, h0 => simp [md_cell, va_up]
    | i + 21, _ => omega
theorem md_r20 : hp_fR (md_set h m S) (some m) 7 20 = some (some (m + 15)) := by
  simp [hp_fR, hp_f, md_at0, md_obj, hp_vR]
theorem md_a20 : hp_aI (md_set h m S) (some (m + 15)) 0 i = (hp_ix i 40).map (S.2 20) := by
  simp [hp_aI, hp_a, md_at h m S 15 (by omega), md_cell, hp_cI]
theorem md_s20 : hp_sI (md_set h m S) (some (m + 15)) 0 i x = (hp_ix i 40).map fun q => md_set h m (S.1, va_up S.2 20 (va_up (S.2 20) q x)) := by
  simp only [hp_sI, hp_a, md_at h m S 15 (by omega), Option.bind_some]
  simp only [md_cell, if_pos, Option.bind_some, hp_cI]
  congr 1
  funext q
  refine md_up h m S (S.1, va_up S.2 20 (va_up (S.2 20) q x)) 15 _ (by omega) ?_ ?_
  · simp [md_cell, va_up]
  · intro i h0 h1
    match i, h0 with
    | 0, h0 => rfl
    | 1, h0 => simp [md_cell, va_up]
    | 2, h0 => simp [md_cell, va_up]
    | 3, h0 => simp [md_cell, va_up]
    | 4, h0 => simp [md_cell, va_up]
    | 5, h0 => simp [md_cell, va_up]
    | 6, h0 => simp [md_cell, va_up]
    | 7, h0 => simp [md_cell, va_up]
    | 8, h0 => simp [md_cell, va_up]
    | 9, h0 => simp [md_cell, va_up]
    | 10, h0 => simp [md_cell, va_up]
    | 11, h0 => simp [md_cell, va_up]
    | 12, h0 => simp [md_cell, va_up]
    | 13, h0 => simp [md_cell, va_up]
    | 14, h0 => simp [md_cell, va_up]
    | 15, h0 => exact absurd rfl h0
    | 16, h0 => simp [md_cell, va_up]
    | 17, h0 => simp [md_cell, va_up]
    | 18, h0 => simp [md_cell, va_up]
    | 19, h0 => simp [md_cell, va_up]
    | 20, h0 => simp [md_cell, va_up]
    | i + 21, _ => omega
theorem md_r21 : hp_fR (md_set h m S) (some m) 7 21 = some (some (m + 16)) := by
  simp [hp_fR, hp_f, md_at0, md_obj, hp_vR]
theorem md_a21 : hp_aI (md_set h m S) (some (m + 16)) 0 i = (hp_ix i 40).map (S.2 21) := by
  simp [hp_aI, hp_a, md_at h m S 16 (by omega), md_cell, hp_cI]
theorem md_s21 : hp_sI (md_set h m S) (some (m + 16)) 0 i x = (hp_ix i 40).map fun q => md_set h m (S.1, va_up S.2 21 (va_up (S.2 21) q x)) := by
  simp only [hp_sI, hp_a, md_at h m S 16 (by omega), Option.bind_some]
  simp only [md_cell, if_pos, Option.bind_some, hp_cI]
  congr 1
  funext q
  refine md_up h m S (S.1, va_up S.2 21 (va_up (S.2 21) q x)) 16 _ (by omega) ?_ ?_
  · simp [md_cell, va_up]
  · intro i h0 h1
    match i, h0 with
    | 0, h0 => rfl
    | 1, h0 => simp [md_cell, va_up]
    | 2, h0 => simp [md_cell, va_up]
    | 3, h0 => simp [md_cell, va_up]
    | 4, h0 => simp [md_cell, va_up]
    | 5, h0 => simp [md_cell, va_up]
    | 6, h0 => simp [md_cell, va_up]
    | 7, h0 => simp [md_cell, va_up]
    | 8, h0 => simp [md_cell, va_up]
    | 9, h0 => simp [md_cell, va_up]
    | 10, h0 => simp [md_cell, va_up]
    | 11, h0 => simp [md_cell, va_up]
    | 12, h0 => simp [md_cell, va_up]
    | 13, h0 => simp [md_cell, va_up]
    | 14, h0 => simp [md_cell, va_up]
    | 15, h0 => simp [md_cell, va_up]
    | 16, h0 => exact absurd rfl h0
    | 17, h0 => simp [md_cell, va_up]
    | 18, h0 => simp [md_cell, va_up]
    | 19, h0 => simp [md_cell, va_up]
    | 20, h0 => simp [md_cell, va_up]
    | i + 21, _ => omega
theorem md_r22 : hp_fR (md_set h m S) (some m) 7 22 = some (some (m + 17)) := by
  simp [hp_fR, hp_f, md_at0, md_obj, hp_vR]
theorem md_a22 : hp_aI (md_set h m S) (some (m + 17)) 0 i = (hp_ix i 40).map (S.2 22) := by
  simp [hp_aI, hp_a, md_at h m S 17 (by omega), md_cell, hp_cI]
theorem md_s22 : hp_sI (md_set h m S) (some (m + 17)) 0 i x = (hp_ix i 40).map fun q => md_set h m (S.1, va_up S.2 22 (va_up (S.2 22) q x)) := by
  simp only [hp_sI, hp_a, md_at h m S 17 (by omega), Option.bind_some]
  simp only [md_cell, if_pos, Option.bind_some, hp_cI]
  congr 1
  funext q
  refine md_up h m S (S.1, va_up S.2 22 (va_up (S.2 22) q x)) 17 _ (by omega) ?_ ?_
  · simp [md_cell, va_up]
  · intro i h0 h1
    match i, h0 with
    | 0, h0 => rfl
    | 1, h0 => simp [md_cell, va_up]
    | 2, h0 => simp [md_cell, va_up]
    | 3, h0 => simp [md_cell, va_up]
    | 4, h0 => simp [md_cell, va_up]
    | 5, h0 => simp [md_cell, va_up]
    | 6, h0 => simp [md_cell, va_up]
    | 7, h0 => simp [md_cell, va_up]
    | 8, h0 => simp [md_cell, va_up]
    | 9, h0 => simp [md_cell, va_up]
    | 10, h0 => simp [md_cell, va_up]
    | 11, h0 => simp [md_cell, va_up]
    | 12, h0 => simp [md_cell, va_up]
    | 13, h0 => simp [md_cell, va_up]
    | 14, h0 => simp [md_cell, va_up]
    | 15, h0 => simp [md_cell, va_up]
    | 16, h0 => simp [md_cell, va_up]
    | 17, h0 => exact absurd rfl h0
    | 18, h0 => simp [md_cell, va_up]
    | 19, h0 => simp [md_cell, va_up]
    | 20, h0 => simp [md_cell, va_up]
    | i + 21, _ => omega
theorem md_r23 : hp_fR (md_set h m S) (some m) 7 23 = some (some (m + 18)) := by
  simp [hp_fR, hp_f, md_at0, md_obj, hp_vR]
theorem md_a23 : hp_aI (md_set h m S) (some (m + 18)) 0 i = (hp_ix i 40).map (S.2 23) := by
  simp [hp_aI, hp_a, md_at h m S 18 (by omega), md_cell, hp_cI]
theorem md_s23 : hp_sI (md_set h m S) (some (m + 18)) 0 i x = (hp_ix i 40).map fun q => md_set h m (S.1, va_up S.2 23 (va_up (S.2 23) q x)) := by
  simp only [hp_sI, hp_a, md_at h m S 18 (by omega), Option.bind_some]
  simp only [md_cell, if_pos, Option.bind_some, hp_cI]
  congr 1
  funext q
  refine md_up h m S (S.1, va_up S.2 23 (va_up (S.2 23) q x)) 18 _ (by omega) ?_ ?_
  · simp [md_cell, va_up]
  · intro i h0 h1
    match i, h0 with
    | 0, h0 => rfl
    | 1, h0 => simp [md_cell, va_up]
    | 2, h0 => simp [md_cell, va_up]
    | 3, h0 => simp [md_cell, va_up]
    | 4, h0 => simp [md_cell, va_up]
    | 5, h0 => simp [md_cell, va_up]
    | 6, h0 => simp [md_cell, va_up]
    | 7, h0 => simp [md_cell, va_up]
    | 8, h0 => simp [md_cell, va_up]
    | 9, h0 => simp [md_cell, va_up]
    | 10, h0 => simp [md_cell, va_up]
    | 11, h0 => simp [md_cell, va_up]
    | 12, h0 => simp [md_cell, va_up]
    | 13, h0 => simp [md_cell, va_up]
    | 14, h0 => simp [md_cell, va_up]
    | 15, h0 => simp [md_cell, va_up]
    | 16, h0 => simp [md_cell, va_up]
    | 17, h0 => simp [md_cell, va_up]
    | 18, h0 => exact absurd rfl h0
    | 19, h0 => simp [md_cell, va_up]
    | 20, h0 => simp [md_cell, va_up]
    | i + 21, _ => omega
theorem md_r24 : hp_fR (md_set h m S) (some m) 7 24 = some (some (m + 19)) := by
  simp [hp_fR, hp_f, md_at0, md_obj, hp_vR]
theorem md_a24 : hp_aI (md_set h m S) (some (m + 19)) 0 i = (hp_ix i 40).map (S.2 24) := by
  simp [hp_aI, hp_a, md_at h m S 19 (by omega), md_cell, hp_cI]
theorem md_s24 : hp_sI (md_set h m S) (some (m + 19)) 0 i x = (hp_ix i 40).map fun q => md_set h m (S.1, va_up S.2 24 (va_up (S.2 24) q x)) := by
  simp only [hp_sI, hp_a, md_at h m S 19 (by omega), Option.bind_some]
  simp only [md_cell, if_pos, Option.bind_some, hp_cI]
  congr 1
  funext q
  refine md_up h m S (S.1, va_up S.2 24 (va_up (S.2 24) q x)) 19 _ (by omega) ?_ ?_
  · simp [md_cell, va_up]
  · intro i h0 h1
    match i, h0 with
    | 0, h0 => rfl
    | 1, h0 => simp [md_cell, va_up]
    | 2, h0 => simp [md_cell, va_up]
    | 3, h0 => simp [md_cell, va_up]
    | 4, h0 => simp [md_cell, va_up]
    | 5, h0 => simp [md_cell, va_up]
    | 6, h0 => simp [md_cell, va_up]
    | 7, h0 => simp [md_cell, va_up]
    | 8, h0 => simp [md_cell, va_up]
    | 9, h0 => simp [md_cell, va_up]
    | 10, h0 => simp [md_cell, va_up]
    | 11, h0 => simp [md_cell, va_up]
    | 12, h0 => simp [md_cell, va_up]
    | 13, h0 => simp [md_cell, va_up]
    | 14, h0 => simp [md_cell, va_up]
    | 15, h0 => simp [md_cell, va_up]
    | 16, h0 => simp [md_cell, va_up]
    | 17, h0 => simp [md_cell, va_up]
    | 18, h0 => simp [md_cell, va_up]
    | 19, h0 => exact absurd rfl h0
    | 20, h0 => simp [md_cell, va_up]
    | i + 21, _ => omega
theorem md_r26 : hp_fR (md_set h m S) (some m) 7 26 = some (some (m + 20)) := by
  simp [hp_fR, hp_f, md_at0, md_obj, hp_vR]
theorem md_a26 : hp_aI (md_set h m S) (some (m + 20)) 0 i = (hp_ix i 40).map (S.2 26) := by
  simp [hp_aI, hp_a, md_at h m S 20 (by omega), md_cell, hp_cI]
theorem md_s26 : hp_sI (md_set h m S) (some (m + 20)) 0 i x = (hp_ix i 40).map fun q => md_set h m (S.1, va_up S.2 26 (va_up (S.2 26) q x)) := by
  simp only [hp_sI, hp_a, md_at h m S 20 (by omega), Option.bind_some]
  simp only [md_cell, if_pos, Option.bind_some, hp_cI]
  congr 1
  funext q
  refine md_up h m S (S.1, va_up S.2 26 (va_up (S.2 26) q x)) 20 _ (by omega) ?_ ?_
  · simp [md_cell, va_up]
  · intro i h0 h1
    match i, h0 with
    | 0, h0 => rfl
    | 1, h0 => simp [md_cell, va_up]
    | 2, h0 => simp [md_cell, va_up]
    | 3, h0 => simp [md_cell, va_up]
    | 4, h0 => simp [md_cell, va_up]
    | 5, h0 => simp [md_cell, va_up]
    | 6, h0 => simp [md_cell, va_up]
    | 7, h0 => simp [md_cell, va_up]
    | 8, h0 => simp [md_cell, va_up]
    | 9, h0 => simp [md_cell, va_up]
    | 10, h0 => simp [md_cell, va_up]
    | 11, h0 => simp [md_cell, va_up]
    | 12, h0 => simp [md_cell, va_up]
    | 13, h0 => simp [md_cell, va_up]
    | 14, h0 => simp [md_cell, va_up]
    | 15, h0 => simp [md_cell, va_up]
    | 16, h0 => simp [md_cell, va_up]
    | 17, h0 => simp [md_cell, va_up]
    | 18, h0 => simp [md_cell, va_up]
    | 19, h0 => simp [md_cell, va_up]
    | 20, h0 => exact absurd rfl h0
    | i + 21, _ => omega
end MDR
