noncomputable def f_LN_init (h : hp_H) (t0 : Nat) : Option (hp_H) :=
  (some (hp_push h (.inl (2, 40, .inl (fun _ => 0))))).bind fun h1 =>
  (hp_s h1 (some t0) 1 0 (va_rf (some h.2))).bind fun h3 =>
  (hp_s h3 (some t0) 1 1 (.int (0 : Int32))).bind fun h5 =>
  (hp_s h5 (some t0) 1 2 (.int (0 : Int32))).bind fun h7 =>
  some h7
noncomputable def f_EL_init (h : hp_H) (t0 : Nat) : Option (hp_H) :=
  (some (hp_push h (.inl (4, 20, .inr (.inr (.inr (.inr (fun _ => none)))))))).bind fun h1 =>
  (hp_s h1 (some t0) 2 0 (va_rf (some h.2))).bind fun h3 =>
  (some (hp_push h3 (.inl (0, 20, .inl (fun _ => 0))))).bind fun h5 =>
  (hp_s h5 (some t0) 2 1 (va_rf (some h3.2))).bind fun h7 =>
  (some (hp_push h7 (.inl (0, 20, .inl (fun _ => 0))))).bind fun h9 =>
  (hp_s h9 (some t0) 2 2 (va_rf (some h7.2))).bind fun h11 =>
  (some (hp_push h11 (.inl (5, 20, .inr (.inr (.inr (.inr (fun _ => none)))))))).bind fun h13 =>
  (hp_s h13 (some t0) 2 3 (va_rf (some h11.2))).bind fun h15 =>
  (hp_s h15 (some t0) 2 4 (.int (0 : Int32))).bind fun h17 =>
  some h17
noncomputable def f_LL_init (h : hp_H) (t0 : Nat) : Option (hp_H) :=
  (some (hp_push h (.inr (1, [.null, .int 0, .int 0])))).bind fun h3 =>
  (f_LN_init h3 h.2).bind fun q4 =>
  (hp_s q4 (some t0) 0 0 (va_rf (some h.2))).bind fun h6 =>
  (some (hp_push h6 (.inl (4, 20, .inr (.inr (.inr (.inr (fun _ => none)))))))).bind fun h8 =>
  (hp_s h8 (some t0) 0 1 (va_rf (some h6.2))).bind fun h10 =>
  (hp_s h10 (some t0) 0 2 (.int (0 : Int32))).bind fun h12 =>
  (some (hp_push h12 (.inr (2, [.null, .null, .null, .null, .int 0])))).bind fun h16 =>
  (f_EL_init h16 h12.2).bind fun q17 =>
  (hp_s q17 (some t0) 0 3 (va_rf (some h12.2))).bind fun h19 =>
  (some (hp_push h19 (.inr (2, [.null, .null, .null, .null, .int 0])))).bind fun h23 =>
  (f_EL_init h23 h19.2).bind fun q24 =>
  (hp_s q24 (some t0) 0 4 (va_rf (some h19.2))).bind fun h26 =>
  (hp_s h26 (some t0) 0 5 (.int (-1 : Int32))).bind fun h28 =>
  some h28
noncomputable def f_LN_append (h : hp_H) (t0 : Nat) (p1 : Int32) : Option (hp_H) :=
  (hp_fI h (some t0) 1 1).bind fun x1 =>
  if (40 : Int32) ≤ x1 then (
    some h) else (
    (hp_fR h (some t0) 1 0).bind fun x4 =>
    (hp_fI h (some t0) 1 1).bind fun x6 =>
    (hp_sI h x4 2 x6 (vp_nar .char p1)).bind fun h8 =>
    (hp_fI h8 (some t0) 1 1).bind fun x10 =>
    (hp_s h8 (some t0) 1 1 (.int (x10 + (1 : Int32)))).bind fun h12 =>
    some h12)
noncomputable def f_LL_type (h : hp_H) (t0 : Nat) (p1 : Int32) : Option (Int32 × hp_H) :=
  if p1 < 0 then (
    some ((-1 : Int32), h)) else (
    if p1 ≤ (255 : Int32) then (
      (hp_fR h (some t0) 0 0).bind fun x3 =>
      (hp_fI h x3 1 1).bind fun x5 =>
      if x5 = (40 : Int32) then (
        some ((-2 : Int32), h)) else (
        (hp_fR h (some t0) 0 0).bind fun x8 =>
        (hp_o h x8 1).bind fun b12 =>
        (f_LN_append h b12 ((p1.toUInt32 % 65536).toInt32)).bind fun q10 =>
        (hp_fR q10 (some t0) 0 0).bind fun x14 =>
        (hp_fI q10 x14 1 1).bind fun x16 =>
        some (x16, q10))) else (
      some ((-1 : Int32), h)))
noncomputable def f_LN_clear (h : hp_H) (t0 : Nat) : Option (hp_H) :=
  (hp_s h (some t0) 1 1 (.int (0 : Int32))).bind fun h1 =>
  (hp_s h1 (some t0) 1 2 (.int (0 : Int32))).bind fun h3 =>
  some h3
noncomputable def f_LL_wipe (h : hp_H) (t0 : Nat) : Option (Int32 × hp_H) :=
  (hp_fR h (some t0) 0 0).bind fun x1 =>
  (hp_fI h x1 1 1).bind fun x3 =>
  (hp_fR h (some t0) 0 0).bind fun x5 =>
  (hp_o h x5 1).bind fun b9 =>
  (f_LN_clear h b9).bind fun q7 =>
  some (x3, q7)
noncomputable def f_JM_min (h : hp_H) (p0 : Int32) (p1 : Int32) : Option (Int32 × hp_H) :=
  if p1 < p0 then (
    some (p1, h)) else (
    some (p0, h))
noncomputable def f_LL_isLetter (h : hp_H) (p0 : Int32) : Option (Int32 × hp_H) :=
  if p0 < (97 : Int32) then (
    some ((0 : Int32), h)) else (
    if (122 : Int32) < p0 then (
      some ((0 : Int32), h)) else (
      some ((1 : Int32), h)))
noncomputable def f_LL_letterNumber (h : hp_H) (p0 : Int32) : Option (Int32 × hp_H) :=
  some (((p0 - (97 : Int32)) + (1 : Int32)), h)
noncomputable def f_LN_takeName_L17 : Nat → Nat → Int64 → Int32 → hp_H → Option (Int64 × hp_H)
  | 0, _, _, _, _ => none
  | n + 1, t0, y1, y3, h =>
    (hp_fI h (some t0) 1 2).bind fun x7 =>
    if y3 ≤ x7 then (
      some (y1, h)) else (
      (hp_fR h (some t0) 1 0).bind fun x10 =>
      (hp_fI h (some t0) 1 2).bind fun x12 =>
      (hp_aI h x10 2 x12).bind fun x14 =>
      (f_LL_isLetter h x14).bind fun q16 =>
      if q16.1 = 0 then (
        some (y1, q16.2)) else (
        (hp_fR q16.2 (some t0) 1 0).bind fun x19 =>
        (hp_fI q16.2 (some t0) 1 2).bind fun x21 =>
        (hp_aI q16.2 x19 2 x21).bind fun x23 =>
        (f_LL_letterNumber q16.2 x23).bind fun q25 =>
        (hp_fI q25.2 (some t0) 1 2).bind fun x27 =>
        (hp_s q25.2 (some t0) 1 2 (.int (x27 + (1 : Int32)))).bind fun h29 =>
        f_LN_takeName_L17 n t0 ((y1 * (27 : Int64)) + (q25.1.toInt64)) y3 h29))
noncomputable def f_LN_takeName (h : hp_H) (t0 : Nat) : Option (Int64 × hp_H) :=
  (hp_fI h (some t0) 1 1).bind fun x1 =>
  (hp_fI h (some t0) 1 2).bind fun x3 =>
  (f_JM_min h x1 (x3 + (8 : Int32))).bind fun q5 =>
  f_LN_takeName_L17 FU t0 (0 : Int64) q5.1 q5.2
noncomputable def f_LN_standsAt (h : hp_H) (t0 : Nat) (p1 : Int32) : Option (Int32 × hp_H) :=
  (hp_fI h (some t0) 1 2).bind fun x1 =>
  (hp_fI h (some t0) 1 1).bind fun x3 =>
  if x3 ≤ x1 then (
    some ((0 : Int32), h)) else (
    (hp_fR h (some t0) 1 0).bind fun x6 =>
    (hp_fI h (some t0) 1 2).bind fun x8 =>
    (hp_aI h x6 2 x8).bind fun x10 =>
    if x10 = p1 then (
      some ((1 : Int32), h)) else (
      some ((0 : Int32), h)))
noncomputable def f_LN_take (h : hp_H) (t0 : Nat) (p1 : Int32) : Option (Int32 × hp_H) :=
  (hp_o h (some t0) 1).bind fun _ =>
  (f_LN_standsAt h t0 p1).bind fun q1 =>
  if q1.1 = 0 then (
    some ((0 : Int32), q1.2)) else (
    (hp_fI q1.2 (some t0) 1 2).bind fun x6 =>
    (hp_s q1.2 (some t0) 1 2 (.int (x6 + (1 : Int32)))).bind fun h8 =>
    some ((1 : Int32), h8))
noncomputable def f_LN_takeNameAndColon (h : hp_H) (t0 : Nat) : Option (Int64 × hp_H) :=
  (hp_o h (some t0) 1).bind fun _ =>
  (f_LN_takeName h t0).bind fun q1 =>
  (hp_o q1.2 (some t0) 1).bind fun _ =>
  (f_LN_take q1.2 t0 (58 : Int32)).bind fun q5 =>
  if q5.1 = 0 then (
    some ((0 : Int64), q5.2)) else (
    some (q1.1, q5.2))
noncomputable def f_LL_isDigit (h : hp_H) (p0 : Int32) : Option (Int32 × hp_H) :=
  if p0 < (48 : Int32) then (
    some ((0 : Int32), h)) else (
    if (57 : Int32) < p0 then (
      some ((0 : Int32), h)) else (
      some ((1 : Int32), h)))
noncomputable def f_LL_isSeparator (h : hp_H) (p0 : Int32) : Option (Int32 × hp_H) :=
  if p0 = (46 : Int32) then (
    some ((1 : Int32), h)) else (
    if p0 = (45 : Int32) then (
      some ((1 : Int32), h)) else (
      some ((0 : Int32), h)))
noncomputable def f_LN_isOfVersion (h : hp_H) (p0 : Int32) : Option (Int32 × hp_H) :=
  (f_LL_isDigit h p0).bind fun q1 =>
  if q1.1 = 0 then (
    (f_LL_isLetter q1.2 p0).bind fun q4 =>
    if q4.1 = 0 then (
      (f_LL_isSeparator q4.2 p0).bind fun q7 =>
      if q7.1 = 0 then (
        some ((0 : Int32), q7.2)) else (
        some ((1 : Int32), q7.2))) else (
      some ((1 : Int32), q4.2))) else (
    some ((1 : Int32), q1.2))
noncomputable def f_LN_isVersion_L32 : Nat → Nat → Int32 → Int32 → Int32 → hp_H → Option (Int32 × hp_H)
  | 0, _, _, _, _, _ => none
  | n + 1, t0, y2, y3, y4, h =>
    if y2 ≤ y4 then (
      if y3 = 0 then (
        some ((1 : Int32), h)) else (
        some ((0 : Int32), h))) else (
      (hp_fR h (some t0) 1 0).bind fun x12 =>
      (hp_aI h x12 2 y4).bind fun x14 =>
      (f_LL_isSeparator h x14).bind fun q16 =>
      if q16.1 = 0 then (
        f_LN_isVersion_L32 n t0 y2 q16.1 (y4 + 1) q16.2) else (
        if y3 = 0 then (
          f_LN_isVersion_L32 n t0 y2 q16.1 (y4 + 1) q16.2) else (
          some ((0 : Int32), q16.2))))
noncomputable def f_LN_isVersion (h : hp_H) (t0 : Nat) (p1 : Int32) (p2 : Int32) : Option (Int32 × hp_H) :=
  if p1 = p2 then (
    some ((0 : Int32), h)) else (
    if (12 : Int32) < (p2 - p1) then (
      some ((0 : Int32), h)) else (
      (hp_fR h (some t0) 1 0).bind fun x3 =>
      (hp_aI h x3 2 p1).bind fun x5 =>
      (f_LL_isDigit h x5).bind fun q7 =>
      if q7.1 = 0 then (
        some ((0 : Int32), q7.2)) else (
        f_LN_isVersion_L32 FU t0 p2 (0 : Int32) p1 q7.2)))
noncomputable def f_VS_init_L149 (k21 : (Nat → Option Nat → Int32 → Int32 → Int32 → Int64 → Int32 → hp_H → Option (hp_H))) (t0 : Nat) (y1 : Option Nat) (y2 : Int32) (y3 : Int32) (y4 : Int32) (y5 : Int64) (y7 : Int32) (y8 : Int32) (h : hp_H) : Option (hp_H) :=
  (hp_fR h (some t0) 6 0).bind fun x28 =>
  (hp_aL h x28 1 y4).bind fun x30 =>
  (f_LL_letterNumber h y8).bind fun q32 =>
  (hp_sL q32.2 x28 1 y4 (x30 + ((q32.1.toInt64) * y5))).bind fun h34 =>
  k21 t0 y1 y2 y3 y4 (y5 / (27 : Int64)) (y7 + 1) h34
noncomputable def f_VS_init_L84 (k21 : (Nat → Option Nat → Int32 → Int32 → Int32 → Int64 → Int32 → hp_H → Option (hp_H))) (t0 : Nat) (y1 : Option Nat) (y2 : Int32) (y3 : Int32) (y5 : Int64) (y7 : Int32) (y8 : Int32) (s0 : Int32) (s1 : Int32) (h : hp_H) : Option (hp_H) :=
  (hp_fR h (some t0) 6 0).bind fun x36 =>
  (hp_fR h (some t0) 6 0).bind fun x38 =>
  (hp_aL h x38 1 (s1 + s0)).bind fun x40 =>
  (hp_sL h x36 1 (s1 + s0) ((x40 * (10 : Int64)) + ((y8 - (48 : Int32)).toInt64))).bind fun h42 =>
  k21 t0 y1 y2 y3 (s1 + s0) y5 (y7 + 1) h42
noncomputable def f_VS_init_L59 (k21 : (Nat → Option Nat → Int32 → Int32 → Int32 → Int64 → Int32 → hp_H → Option (hp_H))) (t0 : Nat) (y1 : Option Nat) (y2 : Int32) (y3 : Int32) (y4 : Int32) (y5 : Int64) (y7 : Int32) (y8 : Int32) (s0 : Int32) (h : hp_H) : Option (hp_H) :=
  (f_LL_isDigit h y8).bind fun q12 =>
  if q12.1 = 0 then (
    (f_LL_isLetter q12.2 y8).bind fun q15 =>
    if q15.1 = 0 then (
      k21 t0 y1 y2 y3 y4 y5 (y7 + 1) q15.2) else (
      (f_LL_isLetter q15.2 s0).bind fun q18 =>
      if q18.1 = 0 then (
        (hp_fR q18.2 (some t0) 6 0).bind fun x21 =>
        (hp_sL q18.2 x21 1 (y4 + 1) (-5559060566555523 : Int64)).bind fun h23 =>
        f_VS_init_L149 k21 t0 y1 y2 y3 (y4 + 1) (205891132094649 : Int64) y7 y8 h23) else (
        f_VS_init_L149 k21 t0 y1 y2 y3 y4 y5 y7 y8 q18.2))) else (
    (f_LL_isDigit q12.2 s0).bind fun q25 =>
    if q25.1 = 0 then (
      f_VS_init_L84 k21 t0 y1 y2 y3 y5 y7 y8 (1 : Int32) y4 q25.2) else (
      f_VS_init_L84 k21 t0 y1 y2 y3 y5 y7 y8 (0 : Int32) y4 q25.2))
noncomputable def f_VS_init_L21 : Nat → Nat → Option Nat → Int32 → Int32 → Int32 → Int64 → Int32 → hp_H → Option (hp_H)
  | 0, _, _, _, _, _, _, _, _ => none
  | n + 1, t0, y1, y2, y3, y4, y5, y7, h =>
    if y3 ≤ y7 then (
      some h) else (
      if (12 : Int32) ≤ (y7 - y2) then (
        some h) else (
        (hp_aI h y1 2 y7).bind fun x7 =>
        if y7 = y2 then (
          f_VS_init_L59 (f_VS_init_L21 n) t0 y1 y2 y3 y4 y5 y7 x7 (46 : Int32) h) else (
          (hp_aI h y1 2 (y7 - (1 : Int32))).bind fun x10 =>
          f_VS_init_L59 (f_VS_init_L21 n) t0 y1 y2 y3 y4 y5 y7 x7 x10 h)))
noncomputable def f_VS_init (h : hp_H) (t0 : Nat) (p1 : Option Nat) (p2 : Int32) (p3 : Int32) : Option (hp_H) :=
  (some (hp_push h (.inl (1, 12, .inr (.inl (fun _ => 0)))))).bind fun h1 =>
  (hp_s h1 (some t0) 6 0 (va_rf (some h.2))).bind fun h3 =>
  f_VS_init_L21 FU t0 p1 p2 p3 (-1 : Int32) (0 : Int64) p2 h3
noncomputable def f_LN_takeVersion_L44 (t0 : Nat) (y1 : Int32) (h : hp_H) : Option (Option Nat × hp_H) :=
  (hp_fI h (some t0) 1 2).bind fun x21 =>
  (hp_o h (some t0) 1).bind fun _ =>
  (f_LN_isVersion h t0 y1 x21).bind fun q23 =>
  if q23.1 = 0 then (
    some (none, q23.2)) else (
    (some (hp_push q23.2 (.inr (6, [.null])))).bind fun h30 =>
    (hp_fR h30 (some t0) 1 0).bind fun x31 =>
    (hp_fI h30 (some t0) 1 2).bind fun x33 =>
    (f_VS_init h30 q23.2.2 x31 y1 x33).bind fun q35 =>
    some ((some q23.2.2), q35))
noncomputable def f_LN_takeVersion_L5 : Nat → Nat → Int32 → hp_H → Option (Option Nat × hp_H)
  | 0, _, _, _ => none
  | n + 1, t0, y1, h =>
    (hp_fI h (some t0) 1 2).bind fun x3 =>
    (hp_fI h (some t0) 1 1).bind fun x5 =>
    if x5 ≤ x3 then (
      f_LN_takeVersion_L44 t0 y1 h) else (
      (hp_fR h (some t0) 1 0).bind fun x8 =>
      (hp_fI h (some t0) 1 2).bind fun x10 =>
      (hp_aI h x8 2 x10).bind fun x12 =>
      (f_LN_isOfVersion h x12).bind fun q14 =>
      if q14.1 = 0 then (
        f_LN_takeVersion_L44 t0 y1 q14.2) else (
        (hp_fI q14.2 (some t0) 1 2).bind fun x17 =>
        (hp_s q14.2 (some t0) 1 2 (.int (x17 + (1 : Int32)))).bind fun h19 =>
        f_LN_takeVersion_L5 n t0 y1 h19))
noncomputable def f_LN_takeVersion (h : hp_H) (t0 : Nat) : Option (Option Nat × hp_H) :=
  (hp_fI h (some t0) 1 2).bind fun x1 =>
  f_LN_takeVersion_L5 FU t0 x1 h
noncomputable def f_LN_copy (h : hp_H) (t0 : Nat) : Option (Option Nat × hp_H) :=
  (hp_fI h (some t0) 1 1).bind fun x1 =>
  (hp_nn x1 40).bind fun N5 =>
  (some (hp_push h (.inl (2, N5, .inl (fun _ => 0))))).bind fun h3 =>
  (hp_fR h3 (some t0) 1 0).bind fun x7 =>
  (hp_fI h3 (some t0) 1 1).bind fun x9 =>
  (hp_cpy h3 x7 2 .char (0 : Int32) (some h.2) (0 : Int32) x9).bind fun h11 =>
  some ((some h.2), h11)
noncomputable def f_LN_finishReading (h : hp_H) (t0 : Nat) : Option (Int32 × hp_H) :=
  (hp_fI h (some t0) 1 2).bind fun x1 =>
  (hp_fI h (some t0) 1 1).bind fun x3 =>
  if x1 = x3 then (
    (hp_o h (some t0) 1).bind fun _ =>
    (f_LN_clear h t0).bind fun q10 =>
    some ((1 : Int32), q10)) else (
    (hp_o h (some t0) 1).bind fun _ =>
    (f_LN_clear h t0).bind fun q6 =>
    some ((0 : Int32), q6))
noncomputable def f_RG_init (h : hp_H) (t0 : Nat) (p1 : Int32) (p2 : Option Nat) (p3 : Int32) (p4 : Option Nat) (p5 : Int32) : Option (hp_H) :=
  (hp_z p1).bind fun z3 =>
  (hp_s h (some t0) 5 0 (.int p1)).bind fun h1 =>
  (hp_s h1 (some t0) 5 1 (va_rf p2)).bind fun h5 =>
  (hp_z p3).bind fun z9 =>
  (hp_s h5 (some t0) 5 2 (.int p3)).bind fun h7 =>
  (hp_s h7 (some t0) 5 3 (va_rf p4)).bind fun h11 =>
  (hp_z p5).bind fun z15 =>
  (hp_s h11 (some t0) 5 4 (.int p5)).bind fun h13 =>
  some h13
noncomputable def f_RG_exactly (h : hp_H) (p0 : Option Nat) (p1 : Int32) : Option (Option Nat × hp_H) :=
  (some (hp_push h (.inr (5, [.int 0, .null, .int 0, .null, .int 0])))).bind fun h3 =>
  (f_RG_init h3 h.2 p1 p0 (0 : Int32) p0 (0 : Int32)).bind fun q4 =>
  some ((some h.2), q4)
noncomputable def f_VS_orderAgainst_L2 : Nat → Nat → Option Nat → Int32 → hp_H → Option (Int32 × hp_H)
  | 0, _, _, _, _ => none
  | n + 1, t0, y1, y2, h =>
    if (12 : Int32) ≤ y2 then (
      some ((0 : Int32), h)) else (
      (hp_fR h (some t0) 6 0).bind fun x2 =>
      (hp_aL h x2 1 y2).bind fun x4 =>
      (hp_fR h y1 6 0).bind fun x6 =>
      (hp_aL h x6 1 y2).bind fun x8 =>
      if (lg_cmp x4 x8) = 0 then (
        f_VS_orderAgainst_L2 n t0 y1 (y2 + 1) h) else (
        (hp_fR h (some t0) 6 0).bind fun x11 =>
        (hp_aL h x11 1 y2).bind fun x13 =>
        (hp_fR h y1 6 0).bind fun x15 =>
        (hp_aL h x15 1 y2).bind fun x17 =>
        if 0 ≤ (lg_cmp x13 x17) then (
          some ((1 : Int32), h)) else (
          some ((-1 : Int32), h))))
noncomputable def f_VS_orderAgainst (h : hp_H) (t0 : Nat) (p1 : Option Nat) : Option (Int32 × hp_H) :=
  f_VS_orderAgainst_L2 FU t0 p1 (0 : Int32) h
noncomputable def f_RG_keepsLow (h : hp_H) (t0 : Nat) (p1 : Option Nat) : Option (Int32 × hp_H) :=
  (hp_fR h (some t0) 5 1).bind fun x1 =>
  if x1 = none then (
    some ((1 : Int32), h)) else (
    (hp_fR h (some t0) 5 1).bind fun x4 =>
    (hp_o h p1 6).bind fun b8 =>
    (f_VS_orderAgainst h b8 x4).bind fun q6 =>
    if 0 < q6.1 then (
      some ((1 : Int32), q6.2)) else (
      if q6.1 = 0 then (
        (hp_fI q6.2 (some t0) 5 2).bind fun x12 =>
        if x12 = 0 then (
          some ((1 : Int32), q6.2)) else (
          some ((0 : Int32), q6.2))) else (
        some ((0 : Int32), q6.2))))
noncomputable def f_RG_keepsHigh (h : hp_H) (t0 : Nat) (p1 : Option Nat) : Option (Int32 × hp_H) :=
  (hp_fR h (some t0) 5 3).bind fun x1 =>
  if x1 = none then (
    some ((1 : Int32), h)) else (
    (hp_fR h (some t0) 5 3).bind fun x4 =>
    (hp_o h p1 6).bind fun b8 =>
    (f_VS_orderAgainst h b8 x4).bind fun q6 =>
    if q6.1 < 0 then (
      some ((1 : Int32), q6.2)) else (
      if q6.1 = 0 then (
        (hp_fI q6.2 (some t0) 5 4).bind fun x12 =>
        if x12 = 0 then (
          some ((1 : Int32), q6.2)) else (
          some ((0 : Int32), q6.2))) else (
        some ((0 : Int32), q6.2))))
noncomputable def f_RG_holds (h : hp_H) (t0 : Nat) (p1 : Option Nat) : Option (Int32 × hp_H) :=
  (hp_o h (some t0) 5).bind fun _ =>
  (f_RG_keepsLow h t0 p1).bind fun q1 =>
  if q1.1 = 0 then (
    some ((0 : Int32), q1.2)) else (
    (hp_o q1.2 (some t0) 5).bind fun _ =>
    (f_RG_keepsHigh q1.2 t0 p1).bind fun q6 =>
    if q6.1 = 0 then (
      some ((0 : Int32), q6.2)) else (
      some ((1 : Int32), q6.2)))
noncomputable def f_LL_pickFor_L59 (k6 : (Nat → Int64 → Option Nat → Option Nat → Int32 → hp_H → Option (Option Nat × hp_H))) (t0 : Nat) (y1 : Int64) (y3 : Option Nat) (y4 : Option Nat) (y5 : Int32) (y6 : Option Nat) (s0 : Int32) (h : hp_H) : Option (Option Nat × hp_H) :=
  if s0 = 0 then (
    k6 t0 y1 y3 y4 (y5 + 1) h) else (
    if y4 = none then (
      k6 t0 y1 y3 y6 (y5 + 1) h) else (
      (hp_fR h y6 3 2).bind fun x23 =>
      (hp_fR h y4 3 2).bind fun x25 =>
      (hp_o h x23 6).bind fun b29 =>
      (f_VS_orderAgainst h b29 x25).bind fun q27 =>
      if q27.1 ≤ 0 then (
        k6 t0 y1 y3 y4 (y5 + 1) q27.2) else (
        k6 t0 y1 y3 y6 (y5 + 1) q27.2)))
noncomputable def f_LL_pickFor_L58 (k6 : (Nat → Int64 → Option Nat → Option Nat → Int32 → hp_H → Option (Option Nat × hp_H))) (t0 : Nat) (y1 : Int64) (y3 : Option Nat) (y4 : Option Nat) (y5 : Int32) (y6 : Option Nat) (h : hp_H) : Option (Option Nat × hp_H) :=
  f_LL_pickFor_L59 k6 t0 y1 y3 y4 y5 y6 (0 : Int32) h
noncomputable def f_LL_pickFor_L6 : Nat → Nat → Int64 → Option Nat → Option Nat → Int32 → hp_H → Option (Option Nat × hp_H)
  | 0, _, _, _, _, _, _ => none
  | n + 1, t0, y1, y3, y4, y5, h =>
    (hp_fI h (some t0) 0 2).bind fun x1 =>
    if x1 ≤ y5 then (
      some (y4, h)) else (
      (hp_fR h (some t0) 0 1).bind fun x4 =>
      (hp_aR h x4 4 y5).bind fun x6 =>
      (hp_fI h x6 3 7).bind fun x8 =>
      if x8 = 0 then (
        (hp_fL h x6 3 1).bind fun x11 =>
        if (lg_cmp x11 y1) = 0 then (
          (hp_fR h x6 3 2).bind fun x14 =>
          (hp_o h y3 5).bind fun b18 =>
          (f_RG_holds h b18 x14).bind fun q16 =>
          if q16.1 = 0 then (
            f_LL_pickFor_L58 (f_LL_pickFor_L6 n) t0 y1 y3 y4 y5 x6 q16.2) else (
            f_LL_pickFor_L59 (f_LL_pickFor_L6 n) t0 y1 y3 y4 y5 x6 (1 : Int32) q16.2)) else (
          f_LL_pickFor_L58 (f_LL_pickFor_L6 n) t0 y1 y3 y4 y5 x6 h)) else (
        f_LL_pickFor_L58 (f_LL_pickFor_L6 n) t0 y1 y3 y4 y5 x6 h))
noncomputable def f_LL_pickFor (h : hp_H) (t0 : Nat) (p1 : Int64) (p3 : Option Nat) : Option (Option Nat × hp_H) :=
  f_LL_pickFor_L6 FU t0 p1 p3 none (0 : Int32) h
noncomputable def f_AR_init (h : hp_H) (t0 : Nat) (p1 : Int32) (p2 : Int64) (p4 : Option Nat) (p5 : Option Nat) : Option (hp_H) :=
  (some (hp_push h (.inl (5, 6, .inr (.inr (.inr (.inr (fun _ => none)))))))).bind fun h1 =>
  (hp_s h1 (some t0) 3 4 (va_rf (some h.2))).bind fun h3 =>
  (hp_s h3 (some t0) 3 5 (.int (0 : Int32))).bind fun h5 =>
  (hp_s h5 (some t0) 3 6 (.int (0 : Int32))).bind fun h7 =>
  (hp_s h7 (some t0) 3 7 (.int (0 : Int32))).bind fun h9 =>
  (hp_s h9 (some t0) 3 0 (.int p1)).bind fun h11 =>
  (hp_s h11 (some t0) 3 1 (.long p2)).bind fun h13 =>
  (hp_s h13 (some t0) 3 2 (va_rf p4)).bind fun h15 =>
  (hp_s h15 (some t0) 3 3 (va_rf p5)).bind fun h17 =>
  some h17
noncomputable def f_LL_publish (h : hp_H) (t0 : Nat) : Option (Int32 × hp_H) :=
  (hp_fR h (some t0) 0 0).bind fun x1 =>
  (hp_o h x1 1).bind fun b5 =>
  (f_LN_takeNameAndColon h b5).bind fun q3 =>
  (hp_fR q3.2 (some t0) 0 0).bind fun x7 =>
  (hp_o q3.2 x7 1).bind fun b11 =>
  (f_LN_takeVersion q3.2 b11).bind fun q9 =>
  (hp_fR q9.2 (some t0) 0 0).bind fun x13 =>
  (hp_o q9.2 x13 1).bind fun b17 =>
  (f_LN_copy q9.2 b17).bind fun q15 =>
  (hp_fR q15.2 (some t0) 0 0).bind fun x19 =>
  (hp_o q15.2 x19 1).bind fun b23 =>
  (f_LN_finishReading q15.2 b23).bind fun q21 =>
  if (lg_cmp q3.1 (0 : Int64)) = 0 then (
    some ((-3 : Int32), q21.2)) else (
    if q9.1 = none then (
      some ((-3 : Int32), q21.2)) else (
      if q21.1 = 0 then (
        some ((-3 : Int32), q21.2)) else (
        (f_RG_exactly q21.2 q9.1 (1 : Int32)).bind fun q28 =>
        (hp_o q28.2 (some t0) 0).bind fun _ =>
        (f_LL_pickFor q28.2 t0 q3.1 q28.1).bind fun q30 =>
        if q30.1 = none then (
          (hp_fI q30.2 (some t0) 0 2).bind fun x35 =>
          if x35 < (20 : Int32) then (
            (hp_fI q30.2 (some t0) 0 2).bind fun x38 =>
            (hp_fR q30.2 (some t0) 0 1).bind fun x40 =>
            (some (hp_push q30.2 (.inr (3, [.int 0, .long 0, .null, .null, .null, .int 0, .int 0, .int 0])))).bind fun h44 =>
            (f_AR_init h44 q30.2.2 x38 q3.1 q9.1 q15.1).bind fun q45 =>
            (hp_sR q45 x40 4 3 x38 (some q30.2.2)).bind fun h47 =>
            (hp_fI h47 (some t0) 0 2).bind fun x49 =>
            (hp_s h47 (some t0) 0 2 (.int (x49 + (1 : Int32)))).bind fun h51 =>
            some (x38, h51)) else (
            some ((-2 : Int32), q30.2))) else (
          some ((-1 : Int32), q30.2)))))
noncomputable def f_LN_takeRestOfRange_L31 (t0 : Nat) (y1 : Option Nat) (y2 : Int32) (y3 : Option Nat) (h : hp_H) : Option (Option Nat × hp_H) :=
  (hp_o h (some t0) 1).bind fun _ =>
  (f_LN_take h t0 (41 : Int32)).bind fun q16 =>
  if q16.1 = 0 then (
    (hp_o q16.2 (some t0) 1).bind fun _ =>
    (f_LN_take q16.2 t0 (93 : Int32)).bind fun q26 =>
    if q26.1 = 0 then (
      some (none, q26.2)) else (
      (some (hp_push q26.2 (.inr (5, [.int 0, .null, .int 0, .null, .int 0])))).bind fun h33 =>
      (f_RG_init h33 q26.2.2 (0 : Int32) y1 y2 y3 q16.1).bind fun q34 =>
      some ((some q26.2.2), q34))) else (
    (some (hp_push q16.2 (.inr (5, [.int 0, .null, .int 0, .null, .int 0])))).bind fun h23 =>
    (f_RG_init h23 q16.2.2 (0 : Int32) y1 y2 y3 q16.1).bind fun q24 =>
    some ((some q16.2.2), q24))
noncomputable def f_LN_takeRestOfRange (h : hp_H) (t0 : Nat) (p1 : Option Nat) (p2 : Int32) : Option (Option Nat × hp_H) :=
  (hp_o h (some t0) 1).bind fun _ =>
  (f_LN_standsAt h t0 (93 : Int32)).bind fun q1 =>
  if q1.1 = 0 then (
    (hp_o q1.2 (some t0) 1).bind fun _ =>
    (f_LN_standsAt q1.2 t0 (41 : Int32)).bind fun q6 =>
    if q6.1 = 0 then (
      (hp_o q6.2 (some t0) 1).bind fun _ =>
      (f_LN_takeVersion q6.2 t0).bind fun q11 =>
      if q11.1 = none then (
        some (none, q11.2)) else (
        f_LN_takeRestOfRange_L31 t0 p1 p2 q11.1 q11.2)) else (
      f_LN_takeRestOfRange_L31 t0 p1 p2 none q6.2)) else (
    f_LN_takeRestOfRange_L31 t0 p1 p2 none q1.2)
noncomputable def f_LN_takeRange_L53 (t0 : Nat) (y1 : Int32) (y2 : Int32) (h : hp_H) : Option (Option Nat × hp_H) :=
  (hp_o h (some t0) 1).bind fun _ =>
  (f_LN_standsAt h t0 (44 : Int32)).bind fun q20 =>
  if q20.1 = 0 then (
    (hp_o q20.2 (some t0) 1).bind fun _ =>
    (f_LN_takeVersion q20.2 t0).bind fun q34 =>
    if q34.1 = none then (
      some (none, q34.2)) else (
      if y1 = 0 then (
        (hp_o q34.2 (some t0) 1).bind fun _ =>
        (f_LN_take q34.2 t0 (44 : Int32)).bind fun q40 =>
        if q40.1 = 0 then (
          some (none, q40.2)) else (
          (hp_o q40.2 (some t0) 1).bind fun _ =>
          (f_LN_takeRestOfRange q40.2 t0 q34.1 y2).bind fun q45 =>
          some (q45.1, q45.2))) else (
        (hp_o q34.2 (some t0) 1).bind fun _ =>
        (f_LN_take q34.2 t0 (93 : Int32)).bind fun q49 =>
        if q49.1 = 0 then (
          (hp_o q49.2 (some t0) 1).bind fun _ =>
          (f_LN_take q49.2 t0 (44 : Int32)).bind fun q54 =>
          if q54.1 = 0 then (
            some (none, q54.2)) else (
            (hp_o q54.2 (some t0) 1).bind fun _ =>
            (f_LN_takeRestOfRange q54.2 t0 q34.1 y2).bind fun q59 =>
            some (q59.1, q59.2))) else (
          (f_RG_exactly q49.2 q34.1 (0 : Int32)).bind fun q63 =>
          some (q63.1, q63.2))))) else (
    (hp_o q20.2 (some t0) 1).bind fun _ =>
    (f_LN_take q20.2 t0 (44 : Int32)).bind fun q25 =>
    if q25.1 = 0 then (
      some (none, q25.2)) else (
      (hp_o q25.2 (some t0) 1).bind fun _ =>
      (f_LN_takeRestOfRange q25.2 t0 none y2).bind fun q30 =>
      some (q30.1, q30.2)))
noncomputable def f_LN_takeRange_L25 (t0 : Nat) (y1 : Int32) (s0 : Int32) (h : hp_H) : Option (Option Nat × hp_H) :=
  if y1 = 0 then (
    if s0 = 0 then (
      (hp_o h (some t0) 1).bind fun _ =>
      (f_LN_takeVersion h t0).bind fun q13 =>
      if q13.1 = none then (
        some (none, q13.2)) else (
        (f_RG_exactly q13.2 q13.1 (1 : Int32)).bind fun q18 =>
        some (q18.1, q18.2))) else (
      f_LN_takeRange_L53 t0 y1 s0 h)) else (
    f_LN_takeRange_L53 t0 y1 s0 h)
noncomputable def f_LN_takeRange_L24 (t0 : Nat) (y1 : Int32) (h : hp_H) : Option (Option Nat × hp_H) :=
  f_LN_takeRange_L25 t0 y1 (0 : Int32) h
noncomputable def f_LN_takeRange (h : hp_H) (t0 : Nat) : Option (Option Nat × hp_H) :=
  (hp_o h (some t0) 1).bind fun _ =>
  (f_LN_take h t0 (91 : Int32)).bind fun q1 =>
  if q1.1 = 0 then (
    (hp_o q1.2 (some t0) 1).bind fun _ =>
    (f_LN_take q1.2 t0 (40 : Int32)).bind fun q6 =>
    if q6.1 = 0 then (
      f_LN_takeRange_L24 t0 q1.1 q6.2) else (
      f_LN_takeRange_L25 t0 q1.1 (1 : Int32) q6.2)) else (
    f_LN_takeRange_L24 t0 q1.1 q1.2)
noncomputable def f_LL_artifactAt (h : hp_H) (t0 : Nat) (p1 : Int32) : Option (Option Nat × hp_H) :=
  if p1 < 0 then (
    some (none, h)) else (
    (hp_fI h (some t0) 0 2).bind fun x2 =>
    if x2 ≤ p1 then (
      some (none, h)) else (
      (hp_fR h (some t0) 0 1).bind fun x5 =>
      (hp_aR h x5 4 p1).bind fun x7 =>
      some (x7, h)))
noncomputable def f_DP_init (h : hp_H) (t0 : Nat) (p1 : Int64) (p3 : Option Nat) (p4 : Int32) : Option (hp_H) :=
  (some (hp_push h (.inl (1, 3, .inr (.inl (fun _ => 0)))))).bind fun h1 =>
  (hp_s h1 (some t0) 4 3 (va_rf (some h.2))).bind fun h3 =>
  (hp_s h3 (some t0) 4 4 (.int (0 : Int32))).bind fun h5 =>
  (hp_s h5 (some t0) 4 0 (.long p1)).bind fun h7 =>
  (hp_s h7 (some t0) 4 1 (va_rf p3)).bind fun h9 =>
  (hp_z p4).bind fun z13 =>
  (hp_s h9 (some t0) 4 2 (.int p4)).bind fun h11 =>
  some h11
noncomputable def f_AR_addDependency (h : hp_H) (t0 : Nat) (p1 : Option Nat) : Option (hp_H) :=
  (hp_fI h (some t0) 3 5).bind fun x1 =>
  if (6 : Int32) ≤ x1 then (
    some h) else (
    (hp_fR h (some t0) 3 4).bind fun x4 =>
    (hp_fI h (some t0) 3 5).bind fun x6 =>
    (hp_sR h x4 5 4 x6 p1).bind fun h8 =>
    (hp_fI h8 (some t0) 3 5).bind fun x10 =>
    (hp_s h8 (some t0) 3 5 (.int (x10 + (1 : Int32)))).bind fun h12 =>
    some h12)
noncomputable def f_LL_depend (h : hp_H) (t0 : Nat) (p1 : Int32) (p2 : Int32) : Option (Int32 × hp_H) :=
  (hp_fR h (some t0) 0 0).bind fun x1 =>
  (hp_o h x1 1).bind fun b5 =>
  (f_LN_takeNameAndColon h b5).bind fun q3 =>
  (hp_fR q3.2 (some t0) 0 0).bind fun x7 =>
  (hp_o q3.2 x7 1).bind fun b11 =>
  (f_LN_takeRange q3.2 b11).bind fun q9 =>
  (hp_fR q9.2 (some t0) 0 0).bind fun x13 =>
  (hp_o q9.2 x13 1).bind fun b17 =>
  (f_LN_finishReading q9.2 b17).bind fun q15 =>
  (hp_o q15.2 (some t0) 0).bind fun _ =>
  (f_LL_artifactAt q15.2 t0 p1).bind fun q19 =>
  if q19.1 = none then (
    some ((-1 : Int32), q19.2)) else (
    if (lg_cmp q3.1 (0 : Int64)) = 0 then (
      some ((-3 : Int32), q19.2)) else (
      if q9.1 = none then (
        some ((-3 : Int32), q19.2)) else (
        if q15.1 = 0 then (
          some ((-3 : Int32), q19.2)) else (
          (hp_fI q19.2 q19.1 3 5).bind fun x27 =>
          if x27 < (6 : Int32) then (
            (some (hp_push q19.2 (.inr (4, [.long 0, .null, .int 0, .null, .int 0])))).bind fun h32 =>
            (f_DP_init h32 q19.2.2 q3.1 q9.1 p2).bind fun q33 =>
            (hp_o q33 q19.1 3).bind fun b37 =>
            (f_AR_addDependency q33 b37 (some q19.2.2)).bind fun q35 =>
            (hp_fI q35 q19.1 3 5).bind fun x39 =>
            some ((x39 - (1 : Int32)), q35)) else (
            some ((-2 : Int32), q19.2))))))
noncomputable def f_AR_lastDependency (h : hp_H) (t0 : Nat) : Option (Option Nat × hp_H) :=
  (hp_fI h (some t0) 3 5).bind fun x1 =>
  if x1 = 0 then (
    some (none, h)) else (
    (hp_fR h (some t0) 3 4).bind fun x4 =>
    (hp_fI h (some t0) 3 5).bind fun x6 =>
    (hp_aR h x4 5 (x6 - (1 : Int32))).bind fun x8 =>
    some (x8, h))
noncomputable def f_DP_addExclusion (h : hp_H) (t0 : Nat) (p1 : Int64) : Option (hp_H) :=
  (hp_fI h (some t0) 4 4).bind fun x1 =>
  if (3 : Int32) ≤ x1 then (
    some h) else (
    (hp_fR h (some t0) 4 3).bind fun x4 =>
    (hp_fI h (some t0) 4 4).bind fun x6 =>
    (hp_sL h x4 1 x6 p1).bind fun h8 =>
    (hp_fI h8 (some t0) 4 4).bind fun x10 =>
    (hp_s h8 (some t0) 4 4 (.int (x10 + (1 : Int32)))).bind fun h12 =>
    some h12)
noncomputable def f_LL_exclude_L38 (y2 : Int64) (y4 : Int32) (s0 : Option Nat) (h : hp_H) : Option (Int32 × hp_H) :=
  if s0 = none then (
    some ((-1 : Int32), h)) else (
    if (lg_cmp y2 (0 : Int64)) = 0 then (
      some ((-3 : Int32), h)) else (
      if y4 = 0 then (
        some ((-3 : Int32), h)) else (
        (hp_fI h s0 4 4).bind fun x25 =>
        if x25 < (3 : Int32) then (
          (hp_o h s0 4).bind fun b30 =>
          (f_DP_addExclusion h b30 y2).bind fun q28 =>
          some ((0 : Int32), q28)) else (
          some ((-2 : Int32), h)))))
noncomputable def f_LL_exclude (h : hp_H) (t0 : Nat) (p1 : Int32) : Option (Int32 × hp_H) :=
  (hp_fR h (some t0) 0 0).bind fun x1 =>
  (hp_o h x1 1).bind fun b5 =>
  (f_LN_takeName h b5).bind fun q3 =>
  (hp_fR q3.2 (some t0) 0 0).bind fun x7 =>
  (hp_o q3.2 x7 1).bind fun b11 =>
  (f_LN_finishReading q3.2 b11).bind fun q9 =>
  (hp_o q9.2 (some t0) 0).bind fun _ =>
  (f_LL_artifactAt q9.2 t0 p1).bind fun q13 =>
  if q13.1 = none then (
    f_LL_exclude_L38 q3.1 q9.1 none q13.2) else (
    (hp_o q13.2 q13.1 3).bind fun b20 =>
    (f_AR_lastDependency q13.2 b20).bind fun q18 =>
    f_LL_exclude_L38 q3.1 q9.1 q18.1 q18.2)
noncomputable def f_LL_isClass (h : hp_H) (p0 : Int32) : Option (Int32 × hp_H) :=
  if p0 < 0 then (
    some ((0 : Int32), h)) else (
    if (32 : Int32) ≤ p0 then (
      some ((0 : Int32), h)) else (
      some ((1 : Int32), h)))
noncomputable def f_AR_setClass (h : hp_H) (t0 : Nat) (p1 : Int32) (p2 : Int32) : Option (hp_H) :=
  if p2 = 0 then (
    (hp_fI h (some t0) 3 6).bind fun x2 =>
    (hp_s h (some t0) 3 6 (.int (x2 &&& (((1 : Int32) <<< (p1 &&& 31)) ^^^ (-1 : Int32))))).bind fun h4 =>
    some h4) else (
    (hp_fI h (some t0) 3 6).bind fun x6 =>
    (hp_s h (some t0) 3 6 (.int (x6 ||| ((1 : Int32) <<< (p1 &&& 31))))).bind fun h8 =>
    some h8)
noncomputable def f_LL_pack (h : hp_H) (t0 : Nat) (p1 : Int32) (p2 : Int32) (p3 : Int32) : Option (Int32 × hp_H) :=
  (hp_o h (some t0) 0).bind fun _ =>
  (f_LL_artifactAt h t0 p1).bind fun q1 =>
  if q1.1 = none then (
    some ((-1 : Int32), q1.2)) else (
    (f_LL_isClass q1.2 p2).bind fun q6 =>
    if q6.1 = 0 then (
      some ((-1 : Int32), q6.2)) else (
      (hp_o q6.2 q1.1 3).bind fun b11 =>
      (f_AR_setClass q6.2 b11 p2 p3).bind fun q9 =>
      some ((0 : Int32), q9)))
noncomputable def f_LL_retire (h : hp_H) (t0 : Nat) (p1 : Int32) : Option (Int32 × hp_H) :=
  (hp_o h (some t0) 0).bind fun _ =>
  (f_LL_artifactAt h t0 p1).bind fun q1 =>
  if q1.1 = none then (
    some ((-1 : Int32), q1.2)) else (
    (hp_fI q1.2 q1.1 3 7).bind fun x6 =>
    if x6 = 0 then (
      (hp_s q1.2 q1.1 3 7 (.int (1 : Int32))).bind fun h9 =>
      some ((0 : Int32), h9)) else (
      some ((-1 : Int32), q1.2)))
noncomputable def f_LL_compare (h : hp_H) (t0 : Nat) : Option (Int32 × hp_H) :=
  (hp_fR h (some t0) 0 0).bind fun x1 =>
  (hp_o h x1 1).bind fun b5 =>
  (f_LN_takeVersion h b5).bind fun q3 =>
  (hp_fR q3.2 (some t0) 0 0).bind fun x7 =>
  (hp_o q3.2 x7 1).bind fun b11 =>
  (f_LN_take q3.2 b11 (58 : Int32)).bind fun q9 =>
  (hp_fR q9.2 (some t0) 0 0).bind fun x13 =>
  (hp_o q9.2 x13 1).bind fun b17 =>
  (f_LN_takeVersion q9.2 b17).bind fun q15 =>
  (hp_fR q15.2 (some t0) 0 0).bind fun x19 =>
  (hp_o q15.2 x19 1).bind fun b23 =>
  (f_LN_finishReading q15.2 b23).bind fun q21 =>
  if q3.1 = none then (
    some ((-3 : Int32), q21.2)) else (
    if q9.1 = 0 then (
      some ((-3 : Int32), q21.2)) else (
      if q15.1 = none then (
        some ((-3 : Int32), q21.2)) else (
        if q21.1 = 0 then (
          some ((-3 : Int32), q21.2)) else (
          (hp_o q21.2 q3.1 6).bind fun b31 =>
          (f_VS_orderAgainst q21.2 b31 q15.1).bind fun q29 =>
          some (((3 : Int32) + q29.1), q29.2)))))
noncomputable def f_EL_begin (h : hp_H) (t0 : Nat) (p1 : Option Nat) : Option (hp_H) :=
  (hp_fR h (some t0) 2 0).bind fun x1 =>
  (hp_sR h x1 4 3 (0 : Int32) p1).bind fun h3 =>
  (hp_fR h3 (some t0) 2 1).bind fun x5 =>
  (hp_sI h3 x5 0 (0 : Int32) (0 : Int32)).bind fun h7 =>
  (hp_fR h7 (some t0) 2 2).bind fun x9 =>
  (hp_sI h7 x9 0 (0 : Int32) (-1 : Int32)).bind fun h11 =>
  (hp_fR h11 (some t0) 2 3).bind fun x13 =>
  (hp_sR h11 x13 5 4 (0 : Int32) none).bind fun h15 =>
  (hp_s h15 (some t0) 2 4 (.int (1 : Int32))).bind fun h17 =>
  some h17
noncomputable def f_DP_excludes_L2 : Nat → Nat → Int64 → Int32 → hp_H → Option (Int32 × hp_H)
  | 0, _, _, _, _ => none
  | n + 1, t0, y1, y3, h =>
    (hp_fI h (some t0) 4 4).bind fun x1 =>
    if x1 ≤ y3 then (
      some ((0 : Int32), h)) else (
      (hp_fR h (some t0) 4 3).bind fun x4 =>
      (hp_aL h x4 1 y3).bind fun x6 =>
      if (lg_cmp x6 y1) = 0 then (
        some ((1 : Int32), h)) else (
        f_DP_excludes_L2 n t0 y1 (y3 + 1) h))
noncomputable def f_DP_excludes (h : hp_H) (t0 : Nat) (p1 : Int64) : Option (Int32 × hp_H) :=
  f_DP_excludes_L2 FU t0 p1 (0 : Int32) h
noncomputable def f_EL_bars_L6 : Nat → Nat → Int64 → Int32 → Int32 → hp_H → Option (Int32 × hp_H)
  | 0, _, _, _, _, _ => none
  | n + 1, t0, y2, y4, y5, h =>
    if (20 : Int32) ≤ y5 then (
      some ((0 : Int32), h)) else (
      if y4 ≤ 0 then (
        some ((0 : Int32), h)) else (
        (hp_fR h (some t0) 2 3).bind fun x3 =>
        (hp_aR h x3 5 y4).bind fun x5 =>
        (hp_o h x5 4).bind fun b9 =>
        (f_DP_excludes h b9 y2).bind fun q7 =>
        if q7.1 = 0 then (
          (hp_fR q7.2 (some t0) 2 2).bind fun x12 =>
          (hp_aI q7.2 x12 0 y4).bind fun x14 =>
          f_EL_bars_L6 n t0 y2 x14 (y5 + 1) q7.2) else (
          some ((1 : Int32), q7.2))))
noncomputable def f_EL_bars (h : hp_H) (t0 : Nat) (p1 : Int32) (p2 : Int64) : Option (Int32 × hp_H) :=
  f_EL_bars_L6 FU t0 p2 p1 (0 : Int32) h
noncomputable def f_EL_artifactNamed_L2 : Nat → Nat → Int64 → Int32 → hp_H → Option (Option Nat × hp_H)
  | 0, _, _, _, _ => none
  | n + 1, t0, y1, y3, h =>
    (hp_fI h (some t0) 2 4).bind fun x1 =>
    if x1 ≤ y3 then (
      some (none, h)) else (
      (hp_fR h (some t0) 2 0).bind fun x4 =>
      (hp_aR h x4 4 y3).bind fun x6 =>
      (hp_fL h x6 3 1).bind fun x8 =>
      if (lg_cmp x8 y1) = 0 then (
        (hp_fR h (some t0) 2 0).bind fun x11 =>
        (hp_aR h x11 4 y3).bind fun x13 =>
        some (x13, h)) else (
        f_EL_artifactNamed_L2 n t0 y1 (y3 + 1) h))
noncomputable def f_EL_artifactNamed (h : hp_H) (t0 : Nat) (p1 : Int64) : Option (Option Nat × hp_H) :=
  f_EL_artifactNamed_L2 FU t0 p1 (0 : Int32) h
noncomputable def f_EL_add (h : hp_H) (t0 : Nat) (p1 : Option Nat) (p2 : Int32) (p3 : Option Nat) : Option (hp_H) :=
  (hp_fI h (some t0) 2 4).bind fun x1 =>
  if (20 : Int32) ≤ x1 then (
    some h) else (
    (hp_fR h (some t0) 2 0).bind fun x4 =>
    (hp_fI h (some t0) 2 4).bind fun x6 =>
    (hp_sR h x4 4 3 x6 p1).bind fun h8 =>
    (hp_fR h8 (some t0) 2 1).bind fun x10 =>
    (hp_fI h8 (some t0) 2 4).bind fun x12 =>
    (hp_fR h8 (some t0) 2 1).bind fun x14 =>
    (hp_aI h8 x14 0 p2).bind fun x16 =>
    (hp_sI h8 x10 0 x12 (x16 + (1 : Int32))).bind fun h18 =>
    (hp_fR h18 (some t0) 2 2).bind fun x20 =>
    (hp_fI h18 (some t0) 2 4).bind fun x22 =>
    (hp_sI h18 x20 0 x22 p2).bind fun h24 =>
    (hp_fR h24 (some t0) 2 3).bind fun x26 =>
    (hp_fI h24 (some t0) 2 4).bind fun x28 =>
    (hp_sR h24 x26 5 4 x28 p3).bind fun h30 =>
    (hp_fI h30 (some t0) 2 4).bind fun x32 =>
    (hp_s h30 (some t0) 2 4 (.int (x32 + (1 : Int32)))).bind fun h34 =>
    some h34)
noncomputable def f_LL_follow_L19 (t0 : Nat) (y1 : Int32) (y2 : Option Nat) (h : hp_H) : Option (Int32 × hp_H) :=
  (hp_fR h (some t0) 0 4).bind fun x11 =>
  (hp_fL h y2 4 0).bind fun x13 =>
  (hp_o h x11 2).bind fun b17 =>
  (f_EL_bars h b17 y1 x13).bind fun q15 =>
  if q15.1 = 0 then (
    (hp_fR q15.2 (some t0) 0 4).bind fun x20 =>
    (hp_fL q15.2 y2 4 0).bind fun x22 =>
    (hp_o q15.2 x20 2).bind fun b26 =>
    (f_EL_artifactNamed q15.2 b26 x22).bind fun q24 =>
    if q24.1 = none then (
      (hp_fL q24.2 y2 4 0).bind fun x29 =>
      (hp_fR q24.2 y2 4 1).bind fun x31 =>
      (hp_o q24.2 (some t0) 0).bind fun _ =>
      (f_LL_pickFor q24.2 t0 x29 x31).bind fun q33 =>
      if q33.1 = none then (
        some ((-4 : Int32), q33.2)) else (
        (hp_fR q33.2 (some t0) 0 4).bind fun x38 =>
        (hp_o q33.2 x38 2).bind fun b42 =>
        (f_EL_add q33.2 b42 q33.1 y1 y2).bind fun q40 =>
        some ((0 : Int32), q40))) else (
      (hp_fR q24.2 y2 4 1).bind fun x44 =>
      (hp_fI q24.2 x44 5 0).bind fun x46 =>
      if x46 = 0 then (
        (hp_fR q24.2 y2 4 1).bind fun x50 =>
        (hp_fR q24.2 q24.1 3 2).bind fun x52 =>
        (hp_o q24.2 x50 5).bind fun b56 =>
        (f_RG_holds q24.2 b56 x52).bind fun q54 =>
        if q54.1 = 0 then (
          some ((-5 : Int32), q54.2)) else (
          some ((0 : Int32), q54.2))) else (
        some ((0 : Int32), q24.2)))) else (
    some ((0 : Int32), q15.2))
noncomputable def f_LL_follow (h : hp_H) (t0 : Nat) (p1 : Int32) (p2 : Option Nat) : Option (Int32 × hp_H) :=
  (hp_fI h p2 4 2).bind fun x1 =>
  if x1 = 0 then (
    f_LL_follow_L19 t0 p1 p2 h) else (
    (hp_fR h (some t0) 0 4).bind fun x4 =>
    (hp_fR h x4 2 1).bind fun x6 =>
    (hp_aI h x6 0 p1).bind fun x8 =>
    if x8 = 0 then (
      f_LL_follow_L19 t0 p1 p2 h) else (
      some ((0 : Int32), h)))
noncomputable def f_LL_fillDraft_L40 (k10 : (Nat → Int32 → hp_H → Option (Int32 × hp_H))) : Nat → Nat → Int32 → Option Nat → Int32 → hp_H → Option (Int32 × hp_H)
  | 0, _, _, _, _, _ => none
  | n + 1, t0, y2, y3, y4, h =>
    (hp_fI h y3 3 5).bind fun x19 =>
    if x19 ≤ y4 then (
      k10 t0 (y2 + 1) h) else (
      (hp_fR h y3 3 4).bind fun x22 =>
      (hp_aR h x22 5 y4).bind fun x24 =>
      (hp_o h (some t0) 0).bind fun _ =>
      (f_LL_follow h t0 y2 x24).bind fun q26 =>
      if q26.1 = 0 then (
        f_LL_fillDraft_L40 k10 n t0 y2 y3 (y4 + 1) q26.2) else (
        (hp_fI q26.2 y3 3 0).bind fun x31 =>
        (hp_s q26.2 (some t0) 0 5 (.int (((8 : Int32) * x31) + y4))).bind fun h33 =>
        some (q26.1, h33)))
noncomputable def f_LL_fillDraft_L10 : Nat → Nat → Int32 → hp_H → Option (Int32 × hp_H)
  | 0, _, _, _ => none
  | n + 1, t0, y2, h =>
    (hp_fR h (some t0) 0 4).bind fun x7 =>
    (hp_fI h x7 2 4).bind fun x9 =>
    if x9 ≤ y2 then (
      some ((0 : Int32), h)) else (
      if (20 : Int32) ≤ y2 then (
        some ((0 : Int32), h)) else (
        (hp_fR h (some t0) 0 4).bind fun x13 =>
        (hp_fR h x13 2 0).bind fun x15 =>
        (hp_aR h x15 4 y2).bind fun x17 =>
        f_LL_fillDraft_L40 (f_LL_fillDraft_L10 n) FU t0 y2 x17 (0 : Int32) h))
noncomputable def f_LL_fillDraft (h : hp_H) (t0 : Nat) (p1 : Option Nat) : Option (Int32 × hp_H) :=
  (hp_fR h (some t0) 0 4).bind fun x1 =>
  (hp_o h x1 2).bind fun b5 =>
  (f_EL_begin h b5 p1).bind fun q3 =>
  f_LL_fillDraft_L10 FU t0 (0 : Int32) q3
noncomputable def f_LL_resolve (h : hp_H) (t0 : Nat) : Option (Int32 × hp_H) :=
  (hp_fR h (some t0) 0 0).bind fun x1 =>
  (hp_o h x1 1).bind fun b5 =>
  (f_LN_takeNameAndColon h b5).bind fun q3 =>
  (hp_fR q3.2 (some t0) 0 0).bind fun x7 =>
  (hp_o q3.2 x7 1).bind fun b11 =>
  (f_LN_takeRange q3.2 b11).bind fun q9 =>
  (hp_fR q9.2 (some t0) 0 0).bind fun x13 =>
  (hp_o q9.2 x13 1).bind fun b17 =>
  (f_LN_finishReading q9.2 b17).bind fun q15 =>
  if (lg_cmp q3.1 (0 : Int64)) = 0 then (
    some ((-3 : Int32), q15.2)) else (
    if q9.1 = none then (
      some ((-3 : Int32), q15.2)) else (
      if q15.1 = 0 then (
        some ((-3 : Int32), q15.2)) else (
        (hp_s q15.2 (some t0) 0 5 (.int (-1 : Int32))).bind fun h22 =>
        (hp_o h22 (some t0) 0).bind fun _ =>
        (f_LL_pickFor h22 t0 q3.1 q9.1).bind fun q24 =>
        if q24.1 = none then (
          some ((-4 : Int32), q24.2)) else (
          (hp_o q24.2 (some t0) 0).bind fun _ =>
          (f_LL_fillDraft q24.2 t0 q24.1).bind fun q29 =>
          if q29.1 = 0 then (
            (hp_fR q29.2 (some t0) 0 3).bind fun x34 =>
            (hp_fR q29.2 (some t0) 0 4).bind fun x36 =>
            (hp_s q29.2 (some t0) 0 3 (va_rf x36)).bind fun h38 =>
            (hp_s h38 (some t0) 0 4 (va_rf x34)).bind fun h40 =>
            (hp_fR h40 (some t0) 0 3).bind fun x42 =>
            (hp_fI h40 x42 2 4).bind fun x44 =>
            some (x44, h40)) else (
            some (q29.1, q29.2))))))
noncomputable def f_LL_culprit (h : hp_H) (t0 : Nat) : Option (Int32 × hp_H) :=
  (hp_fI h (some t0) 0 5).bind fun x1 =>
  some (x1, h)
noncomputable def f_EL_has (h : hp_H) (t0 : Nat) (p1 : Int32) : Option (Int32 × hp_H) :=
  if p1 < 0 then (
    some ((0 : Int32), h)) else (
    (hp_fI h (some t0) 2 4).bind fun x2 =>
    if x2 ≤ p1 then (
      some ((0 : Int32), h)) else (
      some ((1 : Int32), h)))
noncomputable def f_LL_entry (h : hp_H) (t0 : Nat) (p1 : Int32) : Option (Int32 × hp_H) :=
  (hp_fR h (some t0) 0 3).bind fun x1 =>
  (hp_o h x1 2).bind fun b5 =>
  (f_EL_has h b5 p1).bind fun q3 =>
  if q3.1 = 0 then (
    some ((-1 : Int32), q3.2)) else (
    (hp_fR q3.2 (some t0) 0 3).bind fun x8 =>
    (hp_fR q3.2 x8 2 0).bind fun x10 =>
    (hp_aR q3.2 x10 4 p1).bind fun x12 =>
    (hp_fI q3.2 x12 3 0).bind fun x14 =>
    some (x14, q3.2))
noncomputable def f_LL_depth (h : hp_H) (t0 : Nat) (p1 : Int32) : Option (Int32 × hp_H) :=
  (hp_fR h (some t0) 0 3).bind fun x1 =>
  (hp_o h x1 2).bind fun b5 =>
  (f_EL_has h b5 p1).bind fun q3 =>
  if q3.1 = 0 then (
    some ((-1 : Int32), q3.2)) else (
    (hp_fR q3.2 (some t0) 0 3).bind fun x8 =>
    (hp_fR q3.2 x8 2 1).bind fun x10 =>
    (hp_aI q3.2 x10 0 p1).bind fun x12 =>
    some (x12, q3.2))
noncomputable def f_LL_parent (h : hp_H) (t0 : Nat) (p1 : Int32) : Option (Int32 × hp_H) :=
  if p1 = 0 then (
    some ((-1 : Int32), h)) else (
    (hp_fR h (some t0) 0 3).bind fun x2 =>
    (hp_o h x2 2).bind fun b6 =>
    (f_EL_has h b6 p1).bind fun q4 =>
    if q4.1 = 0 then (
      some ((-1 : Int32), q4.2)) else (
      (hp_fR q4.2 (some t0) 0 3).bind fun x9 =>
      (hp_fR q4.2 x9 2 2).bind fun x11 =>
      (hp_aI q4.2 x11 0 p1).bind fun x13 =>
      some (x13, q4.2)))
noncomputable def f_AR_hasClass (h : hp_H) (t0 : Nat) (p1 : Int32) : Option (Int32 × hp_H) :=
  (hp_fI h (some t0) 3 6).bind fun x1 =>
  if (x1 &&& ((1 : Int32) <<< (p1 &&& 31))) = 0 then (
    some ((0 : Int32), h)) else (
    some ((1 : Int32), h))
noncomputable def f_EL_deepestGiver_L44 (k5 : (Nat → Int32 → Int32 → Int32 → Int32 → hp_H → Option (Int32 × hp_H))) (t0 : Nat) (y1 : Int32) (y2 : Int32) (y3 : Int32) (y4 : Int32) (s0 : Int32) (h : hp_H) : Option (Int32 × hp_H) :=
  if s0 = 0 then (
    k5 t0 y1 y2 y3 (y4 + 1) h) else (
    if y3 = (-1 : Int32) then (
      k5 t0 y1 y2 y4 (y4 + 1) h) else (
      (hp_fR h (some t0) 2 1).bind fun x20 =>
      (hp_aI h x20 0 y4).bind fun x22 =>
      (hp_fR h (some t0) 2 1).bind fun x24 =>
      (hp_aI h x24 0 y3).bind fun x26 =>
      if x22 ≤ x26 then (
        k5 t0 y1 y2 y3 (y4 + 1) h) else (
        k5 t0 y1 y2 y4 (y4 + 1) h)))
noncomputable def f_EL_deepestGiver_L43 (k5 : (Nat → Int32 → Int32 → Int32 → Int32 → hp_H → Option (Int32 × hp_H))) (t0 : Nat) (y1 : Int32) (y2 : Int32) (y3 : Int32) (y4 : Int32) (h : hp_H) : Option (Int32 × hp_H) :=
  f_EL_deepestGiver_L44 k5 t0 y1 y2 y3 y4 (0 : Int32) h
noncomputable def f_EL_deepestGiver_L5 : Nat → Nat → Int32 → Int32 → Int32 → Int32 → hp_H → Option (Int32 × hp_H)
  | 0, _, _, _, _, _, _ => none
  | n + 1, t0, y1, y2, y3, y4, h =>
    (hp_fI h (some t0) 2 4).bind fun x1 =>
    if x1 ≤ y4 then (
      some (y3, h)) else (
      (hp_fR h (some t0) 2 1).bind fun x4 =>
      (hp_aI h x4 0 y4).bind fun x6 =>
      if x6 < y1 then (
        f_EL_deepestGiver_L43 (f_EL_deepestGiver_L5 n) t0 y1 y2 y3 y4 h) else (
        (hp_fR h (some t0) 2 0).bind fun x9 =>
        (hp_aR h x9 4 y4).bind fun x11 =>
        (hp_o h x11 3).bind fun b15 =>
        (f_AR_hasClass h b15 y2).bind fun q13 =>
        if q13.1 = 0 then (
          f_EL_deepestGiver_L43 (f_EL_deepestGiver_L5 n) t0 y1 y2 y3 y4 q13.2) else (
          f_EL_deepestGiver_L44 (f_EL_deepestGiver_L5 n) t0 y1 y2 y3 y4 (1 : Int32) q13.2)))
noncomputable def f_EL_deepestGiver (h : hp_H) (t0 : Nat) (p1 : Int32) (p2 : Int32) : Option (Int32 × hp_H) :=
  f_EL_deepestGiver_L5 FU t0 p1 p2 (-1 : Int32) (0 : Int32) h
noncomputable def f_LL_find (h : hp_H) (t0 : Nat) (p1 : Int32) (p2 : Int32) : Option (Int32 × hp_H) :=
  if p1 < 0 then (
    some ((-1 : Int32), h)) else (
    (f_LL_isClass h p2).bind fun q2 =>
    if q2.1 = 0 then (
      some ((-1 : Int32), q2.2)) else (
      (hp_fR q2.2 (some t0) 0 3).bind fun x5 =>
      (hp_o q2.2 x5 2).bind fun b9 =>
      (f_EL_deepestGiver q2.2 b9 p1 p2).bind fun q7 =>
      if q7.1 = (-1 : Int32) then (
        some ((-1 : Int32), q7.2)) else (
        some (q7.1, q7.2))))
noncomputable def f_LL_text (h : hp_H) (t0 : Nat) (p1 : Int32) (p2 : Int32) : Option (Int32 × hp_H) :=
  (hp_o h (some t0) 0).bind fun _ =>
  (f_LL_artifactAt h t0 p1).bind fun q1 =>
  if q1.1 = none then (
    some ((-1 : Int32), q1.2)) else (
    if p2 = (-1 : Int32) then (
      (hp_fR q1.2 q1.1 3 3).bind fun x17 =>
      (hp_len q1.2 x17 2).bind fun x19 =>
      some (x19, q1.2)) else (
      if p2 < 0 then (
        some ((-1 : Int32), q1.2)) else (
        (hp_fR q1.2 q1.1 3 3).bind fun x8 =>
        (hp_len q1.2 x8 2).bind fun x10 =>
        if p2 < x10 then (
          (hp_fR q1.2 q1.1 3 3).bind fun x13 =>
          (hp_aI q1.2 x13 2 p2).bind fun x15 =>
          some (x15, q1.2)) else (
          some ((-1 : Int32), q1.2)))))
noncomputable def f_LL_retiredArtifacts_L4 : Nat → Nat → Int32 → Int32 → hp_H → Option (Int32 × hp_H)
  | 0, _, _, _, _ => none
  | n + 1, t0, y1, y2, h =>
    (hp_fI h (some t0) 0 2).bind fun x1 =>
    if x1 ≤ y2 then (
      some (y1, h)) else (
      (hp_fR h (some t0) 0 1).bind fun x4 =>
      (hp_aR h x4 4 y2).bind fun x6 =>
      (hp_fI h x6 3 7).bind fun x8 =>
      if x8 = 0 then (
        f_LL_retiredArtifacts_L4 n t0 y1 (y2 + 1) h) else (
        f_LL_retiredArtifacts_L4 n t0 (y1 + 1) (y2 + 1) h))
noncomputable def f_LL_retiredArtifacts (h : hp_H) (t0 : Nat) : Option (Int32 × hp_H) :=
  f_LL_retiredArtifacts_L4 FU t0 (0 : Int32) (0 : Int32) h
noncomputable def f_JM_max (h : hp_H) (p0 : Int32) (p1 : Int32) : Option (Int32 × hp_H) :=
  if p0 < p1 then (
    some (p1, h)) else (
    some (p0, h))
noncomputable def f_EL_greatestDepth_L4 : Nat → Nat → Int32 → Int32 → hp_H → Option (Int32 × hp_H)
  | 0, _, _, _, _ => none
  | n + 1, t0, y1, y2, h =>
    (hp_fI h (some t0) 2 4).bind fun x1 =>
    if x1 ≤ y2 then (
      some (y1, h)) else (
      (hp_fR h (some t0) 2 1).bind fun x4 =>
      (hp_aI h x4 0 y2).bind fun x6 =>
      (f_JM_max h y1 x6).bind fun q8 =>
      f_EL_greatestDepth_L4 n t0 q8.1 (y2 + 1) q8.2)
noncomputable def f_EL_greatestDepth (h : hp_H) (t0 : Nat) : Option (Int32 × hp_H) :=
  f_EL_greatestDepth_L4 FU t0 (0 : Int32) (0 : Int32) h
noncomputable def f_JI_bitCount (h : hp_H) (p0 : Int32) : Option (Int32 × hp_H) :=
  some (((((((((p0 - (((p0.toUInt32 >>> ((1 : Int32).toUInt32 &&& Int32.toUInt32 31)).toInt32) &&& (1431655765 : Int32))) &&& (858993459 : Int32)) + ((((p0 - (((p0.toUInt32 >>> ((1 : Int32).toUInt32 &&& Int32.toUInt32 31)).toInt32) &&& (1431655765 : Int32))).toUInt32 >>> ((2 : Int32).toUInt32 &&& Int32.toUInt32 31)).toInt32) &&& (858993459 : Int32))) + (((((p0 - (((p0.toUInt32 >>> ((1 : Int32).toUInt32 &&& Int32.toUInt32 31)).toInt32) &&& (1431655765 : Int32))) &&& (858993459 : Int32)) + ((((p0 - (((p0.toUInt32 >>> ((1 : Int32).toUInt32 &&& Int32.toUInt32 31)).toInt32) &&& (1431655765 : Int32))).toUInt32 >>> ((2 : Int32).toUInt32 &&& Int32.toUInt32 31)).toInt32) &&& (858993459 : Int32))).toUInt32 >>> ((4 : Int32).toUInt32 &&& Int32.toUInt32 31)).toInt32)) &&& (252645135 : Int32)) + (((((((p0 - (((p0.toUInt32 >>> ((1 : Int32).toUInt32 &&& Int32.toUInt32 31)).toInt32) &&& (1431655765 : Int32))) &&& (858993459 : Int32)) + ((((p0 - (((p0.toUInt32 >>> ((1 : Int32).toUInt32 &&& Int32.toUInt32 31)).toInt32) &&& (1431655765 : Int32))).toUInt32 >>> ((2 : Int32).toUInt32 &&& Int32.toUInt32 31)).toInt32) &&& (858993459 : Int32))) + (((((p0 - (((p0.toUInt32 >>> ((1 : Int32).toUInt32 &&& Int32.toUInt32 31)).toInt32) &&& (1431655765 : Int32))) &&& (858993459 : Int32)) + ((((p0 - (((p0.toUInt32 >>> ((1 : Int32).toUInt32 &&& Int32.toUInt32 31)).toInt32) &&& (1431655765 : Int32))).toUInt32 >>> ((2 : Int32).toUInt32 &&& Int32.toUInt32 31)).toInt32) &&& (858993459 : Int32))).toUInt32 >>> ((4 : Int32).toUInt32 &&& Int32.toUInt32 31)).toInt32)) &&& (252645135 : Int32)).toUInt32 >>> ((8 : Int32).toUInt32 &&& Int32.toUInt32 31)).toInt32)) + ((((((((p0 - (((p0.toUInt32 >>> ((1 : Int32).toUInt32 &&& Int32.toUInt32 31)).toInt32) &&& (1431655765 : Int32))) &&& (858993459 : Int32)) + ((((p0 - (((p0.toUInt32 >>> ((1 : Int32).toUInt32 &&& Int32.toUInt32 31)).toInt32) &&& (1431655765 : Int32))).toUInt32 >>> ((2 : Int32).toUInt32 &&& Int32.toUInt32 31)).toInt32) &&& (858993459 : Int32))) + (((((p0 - (((p0.toUInt32 >>> ((1 : Int32).toUInt32 &&& Int32.toUInt32 31)).toInt32) &&& (1431655765 : Int32))) &&& (858993459 : Int32)) + ((((p0 - (((p0.toUInt32 >>> ((1 : Int32).toUInt32 &&& Int32.toUInt32 31)).toInt32) &&& (1431655765 : Int32))).toUInt32 >>> ((2 : Int32).toUInt32 &&& Int32.toUInt32 31)).toInt32) &&& (858993459 : Int32))).toUInt32 >>> ((4 : Int32).toUInt32 &&& Int32.toUInt32 31)).toInt32)) &&& (252645135 : Int32)) + (((((((p0 - (((p0.toUInt32 >>> ((1 : Int32).toUInt32 &&& Int32.toUInt32 31)).toInt32) &&& (1431655765 : Int32))) &&& (858993459 : Int32)) + ((((p0 - (((p0.toUInt32 >>> ((1 : Int32).toUInt32 &&& Int32.toUInt32 31)).toInt32) &&& (1431655765 : Int32))).toUInt32 >>> ((2 : Int32).toUInt32 &&& Int32.toUInt32 31)).toInt32) &&& (858993459 : Int32))) + (((((p0 - (((p0.toUInt32 >>> ((1 : Int32).toUInt32 &&& Int32.toUInt32 31)).toInt32) &&& (1431655765 : Int32))) &&& (858993459 : Int32)) + ((((p0 - (((p0.toUInt32 >>> ((1 : Int32).toUInt32 &&& Int32.toUInt32 31)).toInt32) &&& (1431655765 : Int32))).toUInt32 >>> ((2 : Int32).toUInt32 &&& Int32.toUInt32 31)).toInt32) &&& (858993459 : Int32))).toUInt32 >>> ((4 : Int32).toUInt32 &&& Int32.toUInt32 31)).toInt32)) &&& (252645135 : Int32)).toUInt32 >>> ((8 : Int32).toUInt32 &&& Int32.toUInt32 31)).toInt32)).toUInt32 >>> ((16 : Int32).toUInt32 &&& Int32.toUInt32 31)).toInt32)) &&& (63 : Int32)), h)
noncomputable def f_EL_sharedClasses_L6 : Nat → Nat → Int32 → Int32 → Int32 → hp_H → Option (Int32 × hp_H)
  | 0, _, _, _, _, _ => none
  | n + 1, t0, y1, y2, y3, h =>
    (hp_fI h (some t0) 2 4).bind fun x1 =>
    if x1 ≤ y3 then (
      (f_JI_bitCount h y2).bind fun q4 =>
      some (q4.1, q4.2)) else (
      (hp_fR h (some t0) 2 0).bind fun x6 =>
      (hp_aR h x6 4 y3).bind fun x8 =>
      (hp_fI h x8 3 6).bind fun x10 =>
      (hp_fR h (some t0) 2 0).bind fun x12 =>
      (hp_aR h x12 4 y3).bind fun x14 =>
      (hp_fI h x14 3 6).bind fun x16 =>
      f_EL_sharedClasses_L6 n t0 (y1 ||| x16) (y2 ||| (y1 &&& x10)) (y3 + 1) h)
noncomputable def f_EL_sharedClasses (h : hp_H) (t0 : Nat) : Option (Int32 × hp_H) :=
  f_EL_sharedClasses_L6 FU t0 (0 : Int32) (0 : Int32) (0 : Int32) h
noncomputable def f_LL_count (h : hp_H) (t0 : Nat) (p1 : Int32) : Option (Int32 × hp_H) :=
  if p1 = 0 then (
    (hp_fI h (some t0) 0 2).bind fun x2 =>
    some (x2, h)) else if p1 = 1 then (
    (hp_o h (some t0) 0).bind fun _ =>
    (f_LL_retiredArtifacts h t0).bind fun q5 =>
    some (q5.1, q5.2)) else if p1 = 2 then (
    (hp_fR h (some t0) 0 0).bind fun x10 =>
    (hp_fI h x10 1 1).bind fun x12 =>
    some (x12, h)) else if p1 = 3 then (
    (hp_fR h (some t0) 0 3).bind fun x15 =>
    (hp_fI h x15 2 4).bind fun x17 =>
    some (x17, h)) else if p1 = 4 then (
    (hp_fR h (some t0) 0 3).bind fun x20 =>
    (hp_o h x20 2).bind fun b24 =>
    (f_EL_greatestDepth h b24).bind fun q22 =>
    some (q22.1, q22.2)) else if p1 = 5 then (
    (hp_fR h (some t0) 0 3).bind fun x27 =>
    (hp_o h x27 2).bind fun b31 =>
    (f_EL_sharedClasses h b31).bind fun q29 =>
    some (q29.1, q29.2)) else (
    some ((-1 : Int32), h))
noncomputable def f_MD_init (h : hp_H) (t0 : Nat) : Option (hp_H) :=
  (hp_s h (some t0) 7 0 (.int (0 : Int32))).bind fun h1 =>
  (some (hp_push h1 (.inl (0, 40, .inl (fun _ => 0))))).bind fun h3 =>
  (hp_s h3 (some t0) 7 1 (va_rf (some h1.2))).bind fun h5 =>
  (hp_s h5 (some t0) 7 2 (.int (0 : Int32))).bind fun h7 =>
  (some (hp_push h7 (.inl (0, 40, .inl (fun _ => 0))))).bind fun h9 =>
  (hp_s h9 (some t0) 7 3 (va_rf (some h7.2))).bind fun h11 =>
  (hp_s h11 (some t0) 7 4 (.int (0 : Int32))).bind fun h13 =>
  (some (hp_push h13 (.inl (0, 20, .inl (fun _ => 0))))).bind fun h15 =>
  (hp_s h15 (some t0) 7 5 (va_rf (some h13.2))).bind fun h17 =>
  (some (hp_push h17 (.inl (0, 420, .inl (fun _ => 0))))).bind fun h19 =>
  (hp_s h19 (some t0) 7 6 (va_rf (some h17.2))).bind fun h21 =>
  (some (hp_push h21 (.inl (0, 20, .inl (fun _ => 0))))).bind fun h23 =>
  (hp_s h23 (some t0) 7 7 (va_rf (some h21.2))).bind fun h25 =>
  (some (hp_push h25 (.inl (3, 20, .inl (fun _ => 0))))).bind fun h27 =>
  (hp_s h27 (some t0) 7 8 (va_rf (some h25.2))).bind fun h29 =>
  (some (hp_push h29 (.inl (0, 20, .inl (fun _ => 0))))).bind fun h31 =>
  (hp_s h31 (some t0) 7 9 (va_rf (some h29.2))).bind fun h33 =>
  (some (hp_push h33 (.inl (0, 20, .inl (fun _ => 0))))).bind fun h35 =>
  (hp_s h35 (some t0) 7 10 (va_rf (some h33.2))).bind fun h37 =>
  (some (hp_push h37 (.inl (3, 120, .inl (fun _ => 0))))).bind fun h39 =>
  (hp_s h39 (some t0) 7 11 (va_rf (some h37.2))).bind fun h41 =>
  (some (hp_push h41 (.inl (0, 120, .inl (fun _ => 0))))).bind fun h43 =>
  (hp_s h43 (some t0) 7 12 (va_rf (some h41.2))).bind fun h45 =>
  (some (hp_push h45 (.inl (0, 4800, .inl (fun _ => 0))))).bind fun h47 =>
  (hp_s h47 (some t0) 7 13 (va_rf (some h45.2))).bind fun h49 =>
  (some (hp_push h49 (.inl (0, 120, .inl (fun _ => 0))))).bind fun h51 =>
  (hp_s h51 (some t0) 7 14 (va_rf (some h49.2))).bind fun h53 =>
  (some (hp_push h53 (.inl (0, 360, .inl (fun _ => 0))))).bind fun h55 =>
  (hp_s h55 (some t0) 7 15 (va_rf (some h53.2))).bind fun h57 =>
  (some (hp_push h57 (.inl (0, 2880, .inl (fun _ => 0))))).bind fun h59 =>
  (hp_s h59 (some t0) 7 16 (va_rf (some h57.2))).bind fun h61 =>
  (hp_s h61 (some t0) 7 17 (.int (-1 : Int32))).bind fun h63 =>
  (hp_s h63 (some t0) 7 18 (.int (0 : Int32))).bind fun h65 =>
  (hp_s h65 (some t0) 7 19 (.int (0 : Int32))).bind fun h67 =>
  (some (hp_push h67 (.inl (0, 40, .inl (fun _ => 0))))).bind fun h69 =>
  (hp_s h69 (some t0) 7 20 (va_rf (some h67.2))).bind fun h71 =>
  (some (hp_push h71 (.inl (0, 40, .inl (fun _ => 0))))).bind fun h73 =>
  (hp_s h73 (some t0) 7 21 (va_rf (some h71.2))).bind fun h75 =>
  (some (hp_push h75 (.inl (0, 40, .inl (fun _ => 0))))).bind fun h77 =>
  (hp_s h77 (some t0) 7 22 (va_rf (some h75.2))).bind fun h79 =>
  (some (hp_push h79 (.inl (0, 40, .inl (fun _ => 0))))).bind fun h81 =>
  (hp_s h81 (some t0) 7 23 (va_rf (some h79.2))).bind fun h83 =>
  (some (hp_push h83 (.inl (0, 40, .inl (fun _ => 0))))).bind fun h85 =>
  (hp_s h85 (some t0) 7 24 (va_rf (some h83.2))).bind fun h87 =>
  (hp_s h87 (some t0) 7 25 (.int (0 : Int32))).bind fun h89 =>
  (some (hp_push h89 (.inl (0, 40, .inl (fun _ => 0))))).bind fun h91 =>
  (hp_s h91 (some t0) 7 26 (va_rf (some h89.2))).bind fun h93 =>
  (hp_s h93 (some t0) 7 27 (.int (0 : Int32))).bind fun h95 =>
  (hp_s h95 (some t0) 7 28 (.int (0 : Int32))).bind fun h97 =>
  some h97
noncomputable def f_MD_type (h : hp_H) (t0 : Nat) (p1 : Int32) : Option (Int32 × hp_H) :=
  if p1 < 0 then (
    some ((-1 : Int32), h)) else (
    if p1 ≤ (255 : Int32) then (
      (hp_fI h (some t0) 7 0).bind fun x3 =>
      if x3 = (40 : Int32) then (
        some ((-2 : Int32), h)) else (
        (hp_fR h (some t0) 7 1).bind fun x6 =>
        (hp_fI h (some t0) 7 0).bind fun x8 =>
        (hp_sI h x6 0 x8 p1).bind fun h10 =>
        (hp_fI h10 (some t0) 7 0).bind fun x12 =>
        (hp_s h10 (some t0) 7 0 (.int (x12 + (1 : Int32)))).bind fun h14 =>
        (hp_fI h14 (some t0) 7 0).bind fun x16 =>
        some (x16, h14))) else (
      some ((-1 : Int32), h)))
noncomputable def f_MD_wipe (h : hp_H) (t0 : Nat) : Option (Int32 × hp_H) :=
  (hp_fI h (some t0) 7 0).bind fun x1 =>
  (hp_s h (some t0) 7 0 (.int (0 : Int32))).bind fun h3 =>
  some (x1, h3)
noncomputable def f_MD_take_L10 : Nat → Nat → Int32 → hp_H → Option (hp_H)
  | 0, _, _, _ => none
  | n + 1, t0, y1, h =>
    (hp_fI h (some t0) 7 2).bind fun x5 =>
    if x5 ≤ y1 then (
      (hp_s h (some t0) 7 0 (.int (0 : Int32))).bind fun h8 =>
      some h8) else (
      (hp_fR h (some t0) 7 3).bind fun x10 =>
      (hp_fR h (some t0) 7 1).bind fun x12 =>
      (hp_aI h x12 0 y1).bind fun x14 =>
      (hp_sI h x10 0 y1 x14).bind fun h16 =>
      f_MD_take_L10 n t0 (y1 + 1) h16)
noncomputable def f_MD_take (h : hp_H) (t0 : Nat) : Option (hp_H) :=
  (hp_fI h (some t0) 7 0).bind fun x1 =>
  (hp_s h (some t0) 7 2 (.int x1)).bind fun h3 =>
  f_MD_take_L10 FU t0 (0 : Int32) h3
noncomputable def f_MD_takeDependency_L12 : Nat → Nat → Int32 → Int32 → hp_H → Option (hp_H)
  | 0, _, _, _, _ => none
  | n + 1, t0, y1, y2, h =>
    (hp_fI h (some t0) 7 2).bind fun x7 =>
    if x7 ≤ y2 then (
      some h) else (
      (hp_fR h (some t0) 7 3).bind fun x10 =>
      (hp_fR h (some t0) 7 13).bind fun x12 =>
      (hp_aI h x12 0 ((y1 * (40 : Int32)) + y2)).bind fun x14 =>
      (hp_sI h x10 0 y2 x14).bind fun h16 =>
      f_MD_takeDependency_L12 n t0 y1 (y2 + 1) h16)
noncomputable def f_MD_takeDependency (h : hp_H) (t0 : Nat) (p1 : Int32) : Option (hp_H) :=
  (hp_fR h (some t0) 7 12).bind fun x1 =>
  (hp_aI h x1 0 p1).bind fun x3 =>
  (hp_s h (some t0) 7 2 (.int x3)).bind fun h5 =>
  f_MD_takeDependency_L12 FU t0 p1 (0 : Int32) h5
noncomputable def f_MD_colonAt_L2 : Nat → Nat → Int32 → hp_H → Option (Int32 × hp_H)
  | 0, _, _, _ => none
  | n + 1, t0, y1, h =>
    (hp_fI h (some t0) 7 2).bind fun x1 =>
    if x1 ≤ y1 then (
      some (y1, h)) else (
      (hp_fR h (some t0) 7 3).bind fun x4 =>
      (hp_aI h x4 0 y1).bind fun x6 =>
      if x6 = (58 : Int32) then (
        some (y1, h)) else (
        f_MD_colonAt_L2 n t0 (y1 + 1) h))
noncomputable def f_MD_colonAt (h : hp_H) (t0 : Nat) : Option (Int32 × hp_H) :=
  f_MD_colonAt_L2 FU t0 (0 : Int32) h
noncomputable def f_MD_isName_L2 : Nat → Nat → Int32 → Int32 → Int32 → hp_H → Option (Int32 × hp_H)
  | 0, _, _, _, _, _ => none
  | n + 1, t0, y1, y2, y3, h =>
    if y2 ≤ y3 then (
      if y2 ≤ y1 then (
        some ((0 : Int32), h)) else (
        if (8 : Int32) < (y2 - y1) then (
          some ((0 : Int32), h)) else (
          some ((1 : Int32), h)))) else (
      (hp_fR h (some t0) 7 3).bind fun x4 =>
      (hp_aI h x4 0 y3).bind fun x6 =>
      if x6 < (97 : Int32) then (
        some ((0 : Int32), h)) else (
        (hp_fR h (some t0) 7 3).bind fun x9 =>
        (hp_aI h x9 0 y3).bind fun x11 =>
        if x11 ≤ (122 : Int32) then (
          f_MD_isName_L2 n t0 y1 y2 (y3 + 1) h) else (
          some ((0 : Int32), h))))
noncomputable def f_MD_isName (h : hp_H) (t0 : Nat) (p1 : Int32) (p2 : Int32) : Option (Int32 × hp_H) :=
  f_MD_isName_L2 FU t0 p1 p2 p1 h
noncomputable def f_MD_isDigit (h : hp_H) (t0 : Nat) (p1 : Int32) : Option (Int32 × hp_H) :=
  if p1 < (48 : Int32) then (
    some ((0 : Int32), h)) else (
    if (57 : Int32) < p1 then (
      some ((0 : Int32), h)) else (
      some ((1 : Int32), h)))
noncomputable def f_MD_isMark (h : hp_H) (t0 : Nat) (p1 : Int32) : Option (Int32 × hp_H) :=
  if p1 = (46 : Int32) then (
    some ((1 : Int32), h)) else (
    if p1 = (45 : Int32) then (
      some ((1 : Int32), h)) else (
      some ((0 : Int32), h)))
noncomputable def f_MD_isVersion_L97 (k30 : (Nat → Int32 → Int32 → hp_H → Option (Int32 × hp_H))) (t0 : Nat) (y2 : Int32) (y3 : Int32) (h : hp_H) : Option (Int32 × hp_H) :=
  (hp_fR h (some t0) 7 3).bind fun x42 =>
  (hp_aI h x42 0 y3).bind fun x44 =>
  (hp_o h (some t0) 7).bind fun _ =>
  (f_MD_isMark h t0 x44).bind fun q46 =>
  if q46.1 = 0 then (
    k30 t0 y2 (y3 + 1) q46.2) else (
    if (y3 + (1 : Int32)) = y2 then (
      some ((0 : Int32), q46.2)) else (
      (hp_fR q46.2 (some t0) 7 3).bind fun x52 =>
      (hp_aI q46.2 x52 0 (y3 + (1 : Int32))).bind fun x54 =>
      (hp_o q46.2 (some t0) 7).bind fun _ =>
      (f_MD_isMark q46.2 t0 x54).bind fun q56 =>
      if q56.1 = 0 then (
        k30 t0 y2 (y3 + 1) q56.2) else (
        some ((0 : Int32), q56.2))))
noncomputable def f_MD_isVersion_L62 (k30 : (Nat → Int32 → Int32 → hp_H → Option (Int32 × hp_H))) (t0 : Nat) (y2 : Int32) (y3 : Int32) (s0 : Int32) (h : hp_H) : Option (Int32 × hp_H) :=
  if s0 = 0 then (
    (hp_fR h (some t0) 7 3).bind fun x24 =>
    (hp_aI h x24 0 y3).bind fun x26 =>
    (hp_o h (some t0) 7).bind fun _ =>
    (f_MD_isDigit h t0 x26).bind fun q28 =>
    if q28.1 = 0 then (
      (hp_fR q28.2 (some t0) 7 3).bind fun x33 =>
      (hp_aI q28.2 x33 0 y3).bind fun x35 =>
      (hp_o q28.2 (some t0) 7).bind fun _ =>
      (f_MD_isMark q28.2 t0 x35).bind fun q37 =>
      if q37.1 = 0 then (
        some ((0 : Int32), q37.2)) else (
        f_MD_isVersion_L97 k30 t0 y2 y3 q37.2)) else (
      f_MD_isVersion_L97 k30 t0 y2 y3 q28.2)) else (
    f_MD_isVersion_L97 k30 t0 y2 y3 h)
noncomputable def f_MD_isVersion_L61 (k30 : (Nat → Int32 → Int32 → hp_H → Option (Int32 × hp_H))) (t0 : Nat) (y2 : Int32) (y3 : Int32) (h : hp_H) : Option (Int32 × hp_H) :=
  f_MD_isVersion_L62 k30 t0 y2 y3 (0 : Int32) h
noncomputable def f_MD_isVersion_L30 : Nat → Nat → Int32 → Int32 → hp_H → Option (Int32 × hp_H)
  | 0, _, _, _, _ => none
  | n + 1, t0, y2, y3, h =>
    if y2 ≤ y3 then (
      some ((1 : Int32), h)) else (
      (hp_fR h (some t0) 7 3).bind fun x13 =>
      (hp_aI h x13 0 y3).bind fun x15 =>
      if x15 < (97 : Int32) then (
        f_MD_isVersion_L61 (f_MD_isVersion_L30 n) t0 y2 y3 h) else (
        (hp_fR h (some t0) 7 3).bind fun x18 =>
        (hp_aI h x18 0 y3).bind fun x20 =>
        if (122 : Int32) < x20 then (
          f_MD_isVersion_L61 (f_MD_isVersion_L30 n) t0 y2 y3 h) else (
          f_MD_isVersion_L62 (f_MD_isVersion_L30 n) t0 y2 y3 (1 : Int32) h)))
noncomputable def f_MD_isVersion (h : hp_H) (t0 : Nat) (p1 : Int32) (p2 : Int32) : Option (Int32 × hp_H) :=
  if p2 ≤ p1 then (
    some ((0 : Int32), h)) else (
    if (12 : Int32) < (p2 - p1) then (
      some ((0 : Int32), h)) else (
      (hp_fR h (some t0) 7 3).bind fun x3 =>
      (hp_aI h x3 0 p1).bind fun x5 =>
      (hp_o h (some t0) 7).bind fun _ =>
      (f_MD_isDigit h t0 x5).bind fun q7 =>
      if q7.1 = 0 then (
        some ((0 : Int32), q7.2)) else (
        f_MD_isVersion_L30 FU t0 p2 p1 q7.2)))
noncomputable def f_MD_commaIn_L2 : Nat → Nat → Int32 → Int32 → hp_H → Option (Int32 × hp_H)
  | 0, _, _, _, _ => none
  | n + 1, t0, y2, y3, h =>
    if y2 ≤ y3 then (
      some (y3, h)) else (
      (hp_fR h (some t0) 7 3).bind fun x2 =>
      (hp_aI h x2 0 y3).bind fun x4 =>
      if x4 = (44 : Int32) then (
        some (y3, h)) else (
        f_MD_commaIn_L2 n t0 y2 (y3 + 1) h))
noncomputable def f_MD_commaIn (h : hp_H) (t0 : Nat) (p1 : Int32) (p2 : Int32) : Option (Int32 × hp_H) :=
  f_MD_commaIn_L2 FU t0 p2 p1 h
noncomputable def f_MD_isRange_L141 (t0 : Nat) (y2 : Int32) (y3 : Int32) (h : hp_H) : Option (Int32 × hp_H) :=
  if y3 = (y2 - (2 : Int32)) then (
    some ((1 : Int32), h)) else (
    (hp_o h (some t0) 7).bind fun _ =>
    (f_MD_isVersion h t0 (y3 + (1 : Int32)) (y2 - (1 : Int32))).bind fun q54 =>
    if q54.1 = 0 then (
      some ((0 : Int32), q54.2)) else (
      some ((1 : Int32), q54.2)))
noncomputable def f_MD_isRange_L68 (t0 : Nat) (y1 : Int32) (y2 : Int32) (h : hp_H) : Option (Int32 × hp_H) :=
  (hp_o h (some t0) 7).bind fun _ =>
  (f_MD_commaIn h t0 y1 y2).bind fun q27 =>
  if q27.1 = y2 then (
    (hp_fR q27.2 (some t0) 7 3).bind fun x38 =>
    (hp_aI q27.2 x38 0 y1).bind fun x40 =>
    if x40 = (91 : Int32) then (
      (hp_fR q27.2 (some t0) 7 3).bind fun x43 =>
      (hp_aI q27.2 x43 0 (y2 - (1 : Int32))).bind fun x45 =>
      if x45 = (93 : Int32) then (
        (hp_o q27.2 (some t0) 7).bind fun _ =>
        (f_MD_isVersion q27.2 t0 (y1 + (1 : Int32)) (y2 - (1 : Int32))).bind fun q48 =>
        if q48.1 = 0 then (
          some ((0 : Int32), q48.2)) else (
          some ((1 : Int32), q48.2))) else (
        some ((0 : Int32), q27.2))) else (
      some ((0 : Int32), q27.2))) else (
    if q27.1 = (y1 + (1 : Int32)) then (
      f_MD_isRange_L141 t0 y2 q27.1 q27.2) else (
      (hp_o q27.2 (some t0) 7).bind fun _ =>
      (f_MD_isVersion q27.2 t0 (y1 + (1 : Int32)) q27.1).bind fun q33 =>
      if q33.1 = 0 then (
        some ((0 : Int32), q33.2)) else (
        f_MD_isRange_L141 t0 y2 q27.1 q33.2)))
noncomputable def f_MD_isRange_L40 (t0 : Nat) (y1 : Int32) (y2 : Int32) (h : hp_H) : Option (Int32 × hp_H) :=
  (hp_fR h (some t0) 7 3).bind fun x17 =>
  (hp_aI h x17 0 (y2 - (1 : Int32))).bind fun x19 =>
  if x19 = (93 : Int32) then (
    f_MD_isRange_L68 t0 y1 y2 h) else (
    (hp_fR h (some t0) 7 3).bind fun x22 =>
    (hp_aI h x22 0 (y2 - (1 : Int32))).bind fun x24 =>
    if x24 = (41 : Int32) then (
      f_MD_isRange_L68 t0 y1 y2 h) else (
      some ((0 : Int32), h)))
noncomputable def f_MD_isRange (h : hp_H) (t0 : Nat) (p1 : Int32) (p2 : Int32) : Option (Int32 × hp_H) :=
  (hp_o h (some t0) 7).bind fun _ =>
  (f_MD_isVersion h t0 p1 p2).bind fun q1 =>
  if q1.1 = 0 then (
    if (p2 - p1) < (3 : Int32) then (
      some ((0 : Int32), q1.2)) else (
      (hp_fR q1.2 (some t0) 7 3).bind fun x7 =>
      (hp_aI q1.2 x7 0 p1).bind fun x9 =>
      if x9 = (91 : Int32) then (
        f_MD_isRange_L40 t0 p1 p2 q1.2) else (
        (hp_fR q1.2 (some t0) 7 3).bind fun x12 =>
        (hp_aI q1.2 x12 0 p1).bind fun x14 =>
        if x14 = (40 : Int32) then (
          f_MD_isRange_L40 t0 p1 p2 q1.2) else (
          some ((0 : Int32), q1.2))))) else (
    some ((1 : Int32), q1.2))
noncomputable def f_MD_part_L157 (k22 : (Nat → Int32 → Int32 → Int32 → Int32 → Int32 → hp_H → Option (Int32 × hp_H))) (t0 : Nat) (y1 : Int32) (y2 : Int32) (y3 : Int32) (y4 : Int32) (y5 : Int32) (y6 : Int32) (y7 : Int32) (h : hp_H) : Option (Int32 × hp_H) :=
  (hp_o h (some t0) 7).bind fun _ =>
  (f_MD_isMark h t0 y6).bind fun q40 =>
  if q40.1 = 0 then (
    if y5 = y2 then (
      (hp_s q40.2 (some t0) 7 28 (.int y4)).bind fun h46 =>
      some (y7, h46)) else (
      k22 t0 y1 y2 y3 y4 y5 q40.2)) else (
    k22 t0 y1 y2 y3 y4 y5 q40.2)
noncomputable def f_MD_part_L143 (k22 : (Nat → Int32 → Int32 → Int32 → Int32 → Int32 → hp_H → Option (Int32 × hp_H))) (k78 : (Nat → Int32 → Int32 → Int32 → Int32 → Int32 → Int32 → Int32 → Int32 → hp_H → Option (Int32 × hp_H))) (t0 : Nat) (y1 : Int32) (y2 : Int32) (y3 : Int32) (y4 : Int32) (y5 : Int32) (y6 : Int32) (y7 : Int32) (y8 : Int32) (s0 : Int32) (s1 : Option Nat) (h : hp_H) : Option (Int32 × hp_H) :=
  (hp_o h s1 7).bind fun b64 =>
  (f_MD_isDigit h b64 s0).bind fun q62 =>
  if q62.1 = y8 then (
    k78 t0 y1 y2 y3 (y4 + 1) y5 y6 y7 y8 q62.2) else (
    f_MD_part_L157 k22 t0 y1 y2 y3 y4 y5 y6 y7 q62.2)
noncomputable def f_MD_part_L115 (k22 : (Nat → Int32 → Int32 → Int32 → Int32 → Int32 → hp_H → Option (Int32 × hp_H))) (k78 : (Nat → Int32 → Int32 → Int32 → Int32 → Int32 → Int32 → Int32 → Int32 → hp_H → Option (Int32 × hp_H))) (t0 : Nat) (y1 : Int32) (y2 : Int32) (y3 : Int32) (y4 : Int32) (y5 : Int32) (y6 : Int32) (y7 : Int32) (y8 : Int32) (s0 : Int32) (s1 : Option Nat) (h : hp_H) : Option (Int32 × hp_H) :=
  (hp_o h s1 7).bind fun b50 =>
  (f_MD_isMark h b50 s0).bind fun q48 =>
  if q48.1 = 0 then (
    if y1 = 0 then (
      (hp_fR q48.2 (some t0) 7 26).bind fun x54 =>
      (hp_aI q48.2 x54 0 y4).bind fun x56 =>
      f_MD_part_L143 k22 k78 t0 y1 y2 y3 y4 y5 y6 y7 y8 x56 (some t0) q48.2) else (
      (hp_fR q48.2 (some t0) 7 24).bind fun x58 =>
      (hp_aI q48.2 x58 0 y4).bind fun x60 =>
      f_MD_part_L143 k22 k78 t0 y1 y2 y3 y4 y5 y6 y7 y8 x60 (some t0) q48.2)) else (
    f_MD_part_L157 k22 t0 y1 y2 y3 y4 y5 y6 y7 q48.2)
noncomputable def f_MD_part_L78 (k22 : (Nat → Int32 → Int32 → Int32 → Int32 → Int32 → hp_H → Option (Int32 × hp_H))) : Nat → Nat → Int32 → Int32 → Int32 → Int32 → Int32 → Int32 → Int32 → Int32 → hp_H → Option (Int32 × hp_H)
  | 0, _, _, _, _, _, _, _, _, _, _ => none
  | n + 1, t0, y1, y2, y3, y4, y5, y6, y7, y8, h =>
    if y3 ≤ y4 then (
      f_MD_part_L157 k22 t0 y1 y2 y3 y4 y5 y6 y7 h) else (
      (hp_o h (some t0) 7).bind fun _ =>
      (f_MD_isMark h t0 y6).bind fun q26 =>
      if q26.1 = 0 then (
        if y1 = 0 then (
          (hp_fR q26.2 (some t0) 7 26).bind fun x32 =>
          (hp_aI q26.2 x32 0 y4).bind fun x34 =>
          f_MD_part_L115 k22 (f_MD_part_L78 k22 n) t0 y1 y2 y3 y4 y5 y6 y7 y8 x34 (some t0) q26.2) else (
          (hp_fR q26.2 (some t0) 7 24).bind fun x36 =>
          (hp_aI q26.2 x36 0 y4).bind fun x38 =>
          f_MD_part_L115 k22 (f_MD_part_L78 k22 n) t0 y1 y2 y3 y4 y5 y6 y7 y8 x38 (some t0) q26.2)) else (
        f_MD_part_L157 k22 t0 y1 y2 y3 y4 y5 y6 y7 q26.2))
noncomputable def f_MD_part_L49 (k22 : (Nat → Int32 → Int32 → Int32 → Int32 → Int32 → hp_H → Option (Int32 × hp_H))) (t0 : Nat) (y1 : Int32) (y2 : Int32) (y3 : Int32) (y4 : Int32) (y5 : Int32) (s0 : Int32) (h : hp_H) : Option (Int32 × hp_H) :=
  (hp_o h (some t0) 7).bind fun _ =>
  (f_MD_isDigit h t0 s0).bind fun q16 =>
  (hp_o q16.2 (some t0) 7).bind fun _ =>
  (f_MD_isMark q16.2 t0 s0).bind fun q20 =>
  if q20.1 = 0 then (
    f_MD_part_L78 k22 FU t0 y1 y2 y3 (y4 + 1) (y5 + 1) s0 y4 q16.1 q20.2) else (
    f_MD_part_L78 k22 FU t0 y1 y2 y3 (y4 + 1) y5 s0 y4 q16.1 q20.2)
noncomputable def f_MD_part_L22 : Nat → Nat → Int32 → Int32 → Int32 → Int32 → Int32 → hp_H → Option (Int32 × hp_H)
  | 0, _, _, _, _, _, _, _ => none
  | n + 1, t0, y1, y2, y3, y4, y5, h =>
    if y3 ≤ y4 then (
      some ((-1 : Int32), h)) else (
      if y1 = 0 then (
        (hp_fR h (some t0) 7 26).bind fun x8 =>
        (hp_aI h x8 0 y4).bind fun x10 =>
        f_MD_part_L49 (f_MD_part_L22 n) t0 y1 y2 y3 y4 y5 x10 h) else (
        (hp_fR h (some t0) 7 24).bind fun x12 =>
        (hp_aI h x12 0 y4).bind fun x14 =>
        f_MD_part_L49 (f_MD_part_L22 n) t0 y1 y2 y3 y4 y5 x14 h))
noncomputable def f_MD_part (h : hp_H) (t0 : Nat) (p1 : Int32) (p2 : Int32) : Option (Int32 × hp_H) :=
  if p1 = 0 then (
    (hp_fI h (some t0) 7 27).bind fun x2 =>
    f_MD_part_L22 FU t0 p1 p2 x2 (0 : Int32) (-1 : Int32) h) else (
    (hp_fI h (some t0) 7 25).bind fun x4 =>
    f_MD_part_L22 FU t0 p1 p2 x4 (0 : Int32) (-1 : Int32) h)
noncomputable def f_MD_number_L49 (k19 : (Nat → Int32 → Int64 → Int32 → hp_H → Option (Int64 × hp_H))) (t0 : Nat) (y1 : Int32) (y4 : Int64) (y6 : Int32) (s0 : Int32) (h : hp_H) : Option (Int64 × hp_H) :=
  (hp_o h (some t0) 7).bind fun _ =>
  (f_MD_isDigit h t0 s0).bind fun q18 =>
  if q18.1 = 0 then (
    some ((-1 : Int64), q18.2)) else (
    k19 t0 y1 (((10 : Int64) * y4) + ((s0 - (48 : Int32)).toInt64)) (y6 + 1) q18.2)
noncomputable def f_MD_number_L19 : Nat → Nat → Int32 → Int64 → Int32 → hp_H → Option (Int64 × hp_H)
  | 0, _, _, _, _, _ => none
  | n + 1, t0, y1, y4, y6, h =>
    (hp_fI h (some t0) 7 28).bind fun x6 =>
    if x6 ≤ y6 then (
      some (y4, h)) else (
      if y1 = 0 then (
        (hp_fR h (some t0) 7 26).bind fun x10 =>
        (hp_aI h x10 0 y6).bind fun x12 =>
        f_MD_number_L49 (f_MD_number_L19 n) t0 y1 y4 y6 x12 h) else (
        (hp_fR h (some t0) 7 24).bind fun x14 =>
        (hp_aI h x14 0 y6).bind fun x16 =>
        f_MD_number_L49 (f_MD_number_L19 n) t0 y1 y4 y6 x16 h))
noncomputable def f_MD_number (h : hp_H) (t0 : Nat) (p1 : Int32) (p2 : Int32) : Option (Int64 × hp_H) :=
  (hp_o h (some t0) 7).bind fun _ =>
  (f_MD_part h t0 p1 p2).bind fun q1 =>
  if 0 ≤ q1.1 then (
    f_MD_number_L19 FU t0 p1 (0 : Int64) q1.1 q1.2) else (
    some ((0 : Int64), q1.2))
noncomputable def f_MD_orderOfWords_L79 (k23 : (Nat → Int32 → Int32 → Int32 → Int32 → hp_H → Option (Int32 × hp_H))) (t0 : Nat) (y2 : Int32) (y3 : Int32) (y4 : Int32) (y5 : Int32) (y6 : Int32) (s0 : Int32) (h : hp_H) : Option (Int32 × hp_H) :=
  if y6 = s0 then (
    k23 t0 y2 y3 y4 (y5 + 1) h) else (
    if s0 ≤ y6 then (
      some ((1 : Int32), h)) else (
      some ((-1 : Int32), h)))
noncomputable def f_MD_orderOfWords_L51 (k23 : (Nat → Int32 → Int32 → Int32 → Int32 → hp_H → Option (Int32 × hp_H))) (t0 : Nat) (y2 : Int32) (y3 : Int32) (y4 : Int32) (y5 : Int32) (s0 : Int32) (h : hp_H) : Option (Int32 × hp_H) :=
  (hp_fI h (some t0) 7 28).bind fun x17 =>
  if x17 ≤ (y4 + y5) then (
    f_MD_orderOfWords_L79 k23 t0 y2 y3 y4 y5 s0 (0 : Int32) h) else (
    (hp_fR h (some t0) 7 26).bind fun x20 =>
    (hp_aI h x20 0 (y4 + y5)).bind fun x22 =>
    f_MD_orderOfWords_L79 k23 t0 y2 y3 y4 y5 s0 x22 h)
noncomputable def f_MD_orderOfWords_L23 : Nat → Nat → Int32 → Int32 → Int32 → Int32 → hp_H → Option (Int32 × hp_H)
  | 0, _, _, _, _, _, _ => none
  | n + 1, t0, y2, y3, y4, y5, h =>
    if (12 : Int32) ≤ y5 then (
      some ((0 : Int32), h)) else (
      if y3 ≤ (y2 + y5) then (
        f_MD_orderOfWords_L51 (f_MD_orderOfWords_L23 n) t0 y2 y3 y4 y5 (0 : Int32) h) else (
        (hp_fR h (some t0) 7 24).bind fun x13 =>
        (hp_aI h x13 0 (y2 + y5)).bind fun x15 =>
        f_MD_orderOfWords_L51 (f_MD_orderOfWords_L23 n) t0 y2 y3 y4 y5 x15 h))
noncomputable def f_MD_orderOfWords (h : hp_H) (t0 : Nat) (p1 : Int32) : Option (Int32 × hp_H) :=
  (hp_o h (some t0) 7).bind fun _ =>
  (f_MD_part h t0 (1 : Int32) p1).bind fun q1 =>
  (hp_fI q1.2 (some t0) 7 28).bind fun x5 =>
  (hp_o q1.2 (some t0) 7).bind fun _ =>
  (f_MD_part q1.2 t0 (0 : Int32) p1).bind fun q7 =>
  f_MD_orderOfWords_L23 FU t0 q1.1 x5 q7.1 (0 : Int32) q7.2
noncomputable def f_MD_order_L2 : Nat → Nat → Int32 → hp_H → Option (Int32 × hp_H)
  | 0, _, _, _ => none
  | n + 1, t0, y1, h =>
    if (12 : Int32) ≤ y1 then (
      some ((0 : Int32), h)) else (
      (hp_o h (some t0) 7).bind fun _ =>
      (f_MD_number h t0 (1 : Int32) y1).bind fun q2 =>
      (hp_o q2.2 (some t0) 7).bind fun _ =>
      (f_MD_number q2.2 t0 (0 : Int32) y1).bind fun q6 =>
      if (lg_cmp q2.1 q6.1) = 0 then (
        if 0 ≤ (lg_cmp q2.1 (0 : Int64)) then (
          f_MD_order_L2 n t0 (y1 + 1) q6.2) else (
          (hp_o q6.2 (some t0) 7).bind fun _ =>
          (f_MD_orderOfWords q6.2 t0 y1).bind fun q12 =>
          if q12.1 = 0 then (
            f_MD_order_L2 n t0 (y1 + 1) q12.2) else (
            some (q12.1, q12.2)))) else (
        if 0 ≤ (lg_cmp q2.1 q6.1) then (
          some ((1 : Int32), q6.2)) else (
          some ((-1 : Int32), q6.2))))
noncomputable def f_MD_order (h : hp_H) (t0 : Nat) : Option (Int32 × hp_H) :=
  f_MD_order_L2 FU t0 (0 : Int32) h
noncomputable def f_MD_firstIs_L14 : Nat → Nat → Int32 → Int32 → hp_H → Option (hp_H)
  | 0, _, _, _, _ => none
  | n + 1, t0, y1, y2, h =>
    (hp_fR h (some t0) 7 5).bind fun x7 =>
    (hp_aI h x7 0 y1).bind fun x9 =>
    if x9 ≤ y2 then (
      some h) else (
      (hp_fR h (some t0) 7 24).bind fun x12 =>
      (hp_fI h (some t0) 7 25).bind fun x14 =>
      (hp_fR h (some t0) 7 6).bind fun x16 =>
      (hp_aI h x16 0 ((y1 * (21 : Int32)) + y2)).bind fun x18 =>
      (hp_sI h x12 0 x14 x18).bind fun h20 =>
      (hp_fI h20 (some t0) 7 25).bind fun x22 =>
      (hp_s h20 (some t0) 7 25 (.int (x22 + (1 : Int32)))).bind fun h24 =>
      f_MD_firstIs_L14 n t0 y1 (y2 + 1) h24)
noncomputable def f_MD_firstIs (h : hp_H) (t0 : Nat) (p1 : Int32) : Option (hp_H) :=
  (hp_s h (some t0) 7 25 (.int (0 : Int32))).bind fun h1 =>
  (hp_fR h1 (some t0) 7 7).bind fun x3 =>
  (hp_aI h1 x3 0 p1).bind fun x5 =>
  f_MD_firstIs_L14 FU t0 p1 (x5 + (1 : Int32)) h1
noncomputable def f_MD_secondIs_L7 : Nat → Nat → Int32 → Int32 → hp_H → Option (hp_H)
  | 0, _, _, _, _ => none
  | n + 1, t0, y2, y3, h =>
    if y2 ≤ y3 then (
      some h) else (
      (hp_fR h (some t0) 7 26).bind fun x4 =>
      (hp_fI h (some t0) 7 27).bind fun x6 =>
      (hp_fR h (some t0) 7 3).bind fun x8 =>
      (hp_aI h x8 0 y3).bind fun x10 =>
      (hp_sI h x4 0 x6 x10).bind fun h12 =>
      (hp_fI h12 (some t0) 7 27).bind fun x14 =>
      (hp_s h12 (some t0) 7 27 (.int (x14 + (1 : Int32)))).bind fun h16 =>
      f_MD_secondIs_L7 n t0 y2 (y3 + 1) h16)
noncomputable def f_MD_secondIs (h : hp_H) (t0 : Nat) (p1 : Int32) (p2 : Int32) : Option (hp_H) :=
  (hp_s h (some t0) 7 27 (.int (0 : Int32))).bind fun h1 =>
  f_MD_secondIs_L7 FU t0 p2 p1 h1
noncomputable def f_MD_orderTo (h : hp_H) (t0 : Nat) (p1 : Int32) (p2 : Int32) (p3 : Int32) : Option (Int32 × hp_H) :=
  (hp_o h (some t0) 7).bind fun _ =>
  (f_MD_firstIs h t0 p1).bind fun q1 =>
  (hp_o q1 (some t0) 7).bind fun _ =>
  (f_MD_secondIs q1 t0 p2 p3).bind fun q5 =>
  (hp_o q5 (some t0) 7).bind fun _ =>
  (f_MD_order q5 t0).bind fun q9 =>
  some (q9.1, q9.2)
noncomputable def f_MD_holds_L113 (t0 : Nat) (y1 : Int32) (y3 : Int32) (h : hp_H) : Option (Int32 × hp_H) :=
  (hp_fI h (some t0) 7 2).bind fun x43 =>
  if (x43 - (2 : Int32)) ≤ y3 then (
    some ((1 : Int32), h)) else (
    (hp_fI h (some t0) 7 2).bind fun x46 =>
    (hp_o h (some t0) 7).bind fun _ =>
    (f_MD_orderTo h t0 y1 (y3 + (1 : Int32)) (x46 - (1 : Int32))).bind fun q48 =>
    if 0 < q48.1 then (
      some ((0 : Int32), q48.2)) else (
      if q48.1 = 0 then (
        (hp_fR q48.2 (some t0) 7 3).bind fun x54 =>
        (hp_fI q48.2 (some t0) 7 2).bind fun x56 =>
        (hp_aI q48.2 x54 0 (x56 - (1 : Int32))).bind fun x58 =>
        if x58 = (41 : Int32) then (
          some ((0 : Int32), q48.2)) else (
          some ((1 : Int32), q48.2))) else (
        some ((1 : Int32), q48.2))))
noncomputable def f_MD_holds (h : hp_H) (t0 : Nat) (p1 : Int32) (p2 : Int32) : Option (Int32 × hp_H) :=
  (hp_fI h (some t0) 7 2).bind fun x1 =>
  (hp_o h (some t0) 7).bind fun _ =>
  (f_MD_isVersion h t0 p2 x1).bind fun q3 =>
  if q3.1 = 0 then (
    (hp_fI q3.2 (some t0) 7 2).bind fun x8 =>
    (hp_o q3.2 (some t0) 7).bind fun _ =>
    (f_MD_commaIn q3.2 t0 p2 x8).bind fun q10 =>
    (hp_fI q10.2 (some t0) 7 2).bind fun x14 =>
    if q10.1 = x14 then (
      (hp_fI q10.2 (some t0) 7 2).bind fun x29 =>
      (hp_o q10.2 (some t0) 7).bind fun _ =>
      (f_MD_orderTo q10.2 t0 p1 (p2 + (1 : Int32)) (x29 - (1 : Int32))).bind fun q31 =>
      if q31.1 = 0 then (
        some ((1 : Int32), q31.2)) else (
        some ((0 : Int32), q31.2))) else (
      if q10.1 ≤ (p2 + (1 : Int32)) then (
        f_MD_holds_L113 t0 p1 q10.1 q10.2) else (
        (hp_o q10.2 (some t0) 7).bind fun _ =>
        (f_MD_orderTo q10.2 t0 p1 (p2 + (1 : Int32)) q10.1).bind fun q18 =>
        if q18.1 < 0 then (
          some ((0 : Int32), q18.2)) else (
          if q18.1 = 0 then (
            (hp_fR q18.2 (some t0) 7 3).bind fun x24 =>
            (hp_aI q18.2 x24 0 p2).bind fun x26 =>
            if x26 = (40 : Int32) then (
              some ((0 : Int32), q18.2)) else (
              f_MD_holds_L113 t0 p1 q10.1 q18.2)) else (
            f_MD_holds_L113 t0 p1 q10.1 q18.2))))) else (
    (hp_fI q3.2 (some t0) 7 2).bind fun x36 =>
    (hp_o q3.2 (some t0) 7).bind fun _ =>
    (f_MD_orderTo q3.2 t0 p1 p2 x36).bind fun q38 =>
    if q38.1 = 0 then (
      some ((1 : Int32), q38.2)) else (
      some ((0 : Int32), q38.2)))
noncomputable def f_MD_hasName_L14 : Nat → Nat → Int32 → Int32 → Int32 → hp_H → Option (Int32 × hp_H)
  | 0, _, _, _, _, _ => none
  | n + 1, t0, y1, y2, y3, h =>
    if y2 ≤ y3 then (
      some ((1 : Int32), h)) else (
      (hp_fR h (some t0) 7 6).bind fun x7 =>
      (hp_aI h x7 0 ((y1 * (21 : Int32)) + y3)).bind fun x9 =>
      (hp_fR h (some t0) 7 3).bind fun x11 =>
      (hp_aI h x11 0 y3).bind fun x13 =>
      if x9 = x13 then (
        f_MD_hasName_L14 n t0 y1 y2 (y3 + 1) h) else (
        some ((0 : Int32), h)))
noncomputable def f_MD_hasName (h : hp_H) (t0 : Nat) (p1 : Int32) (p2 : Int32) : Option (Int32 × hp_H) :=
  (hp_fR h (some t0) 7 7).bind fun x1 =>
  (hp_aI h x1 0 p1).bind fun x3 =>
  if x3 = p2 then (
    f_MD_hasName_L14 FU t0 p1 p2 (0 : Int32) h) else (
    some ((0 : Int32), h))
noncomputable def f_MD_isAbove_L15 : Nat → Nat → Int32 → Int32 → hp_H → Option (Int32 × hp_H)
  | 0, _, _, _, _ => none
  | n + 1, t0, y1, y3, h =>
    (hp_fI h (some t0) 7 25).bind fun x9 =>
    if x9 ≤ y3 then (
      (hp_o h (some t0) 7).bind fun _ =>
      (f_MD_firstIs h t0 y1).bind fun q12 =>
      (hp_o q12 (some t0) 7).bind fun _ =>
      (f_MD_order q12 t0).bind fun q16 =>
      if q16.1 ≤ 0 then (
        some ((0 : Int32), q16.2)) else (
        some ((1 : Int32), q16.2))) else (
      (hp_fR h (some t0) 7 26).bind fun x21 =>
      (hp_fR h (some t0) 7 24).bind fun x23 =>
      (hp_aI h x23 0 y3).bind fun x25 =>
      (hp_sI h x21 0 y3 x25).bind fun h27 =>
      f_MD_isAbove_L15 n t0 y1 (y3 + 1) h27)
noncomputable def f_MD_isAbove (h : hp_H) (t0 : Nat) (p1 : Int32) (p2 : Int32) : Option (Int32 × hp_H) :=
  (hp_o h (some t0) 7).bind fun _ =>
  (f_MD_firstIs h t0 p2).bind fun q1 =>
  (hp_fI q1 (some t0) 7 25).bind fun x5 =>
  (hp_s q1 (some t0) 7 27 (.int x5)).bind fun h7 =>
  f_MD_isAbove_L15 FU t0 p1 (0 : Int32) h7
noncomputable def f_MD_pick_L9 : Nat → Nat → Int32 → Int32 → Int32 → hp_H → Option (Int32 × hp_H)
  | 0, _, _, _, _, _ => none
  | n + 1, t0, y1, y2, y3, h =>
    (hp_fI h (some t0) 7 4).bind fun x5 =>
    if x5 ≤ y3 then (
      some (y2, h)) else (
      (hp_fR h (some t0) 7 8).bind fun x8 =>
      (hp_aI h x8 3 y3).bind fun x10 =>
      if x10 = 0 then (
        (hp_o h (some t0) 7).bind fun _ =>
        (f_MD_hasName h t0 y3 y1).bind fun q13 =>
        if q13.1 = 0 then (
          f_MD_pick_L9 n t0 y1 y2 (y3 + 1) q13.2) else (
          (hp_o q13.2 (some t0) 7).bind fun _ =>
          (f_MD_holds q13.2 t0 y3 (y1 + (1 : Int32))).bind fun q18 =>
          if q18.1 = 0 then (
            f_MD_pick_L9 n t0 y1 y2 (y3 + 1) q18.2) else (
            if y2 < 0 then (
              f_MD_pick_L9 n t0 y1 y3 (y3 + 1) q18.2) else (
              (hp_o q18.2 (some t0) 7).bind fun _ =>
              (f_MD_isAbove q18.2 t0 y3 y2).bind fun q24 =>
              if q24.1 = 0 then (
                f_MD_pick_L9 n t0 y1 y2 (y3 + 1) q24.2) else (
                f_MD_pick_L9 n t0 y1 y3 (y3 + 1) q24.2))))) else (
        f_MD_pick_L9 n t0 y1 y2 (y3 + 1) h))
noncomputable def f_MD_pick (h : hp_H) (t0 : Nat) : Option (Int32 × hp_H) :=
  (hp_o h (some t0) 7).bind fun _ =>
  (f_MD_colonAt h t0).bind fun q1 =>
  f_MD_pick_L9 FU t0 q1.1 (-1 : Int32) (0 : Int32) q1.2
noncomputable def f_MD_publish_L108 : Nat → Nat → Int32 → Int32 → hp_H → Option (Int32 × hp_H)
  | 0, _, _, _, _ => none
  | n + 1, t0, y1, y2, h =>
    (hp_fI h (some t0) 7 2).bind fun x47 =>
    if x47 ≤ y2 then (
      (hp_fR h (some t0) 7 5).bind fun x50 =>
      (hp_fI h (some t0) 7 4).bind fun x52 =>
      (hp_fI h (some t0) 7 2).bind fun x54 =>
      (hp_sI h x50 0 x52 x54).bind fun h56 =>
      (hp_fR h56 (some t0) 7 7).bind fun x58 =>
      (hp_fI h56 (some t0) 7 4).bind fun x60 =>
      (hp_sI h56 x58 0 x60 y1).bind fun h62 =>
      (hp_fI h62 (some t0) 7 4).bind fun x64 =>
      (hp_s h62 (some t0) 7 4 (.int (x64 + (1 : Int32)))).bind fun h66 =>
      (hp_fI h66 (some t0) 7 4).bind fun x68 =>
      some ((x68 - (1 : Int32)), h66)) else (
      (hp_fR h (some t0) 7 6).bind fun x70 =>
      (hp_fI h (some t0) 7 4).bind fun x72 =>
      (hp_fR h (some t0) 7 3).bind fun x74 =>
      (hp_aI h x74 0 y2).bind fun x76 =>
      (hp_sI h x70 0 ((x72 * (21 : Int32)) + y2) x76).bind fun h78 =>
      f_MD_publish_L108 n t0 y1 (y2 + 1) h78)
noncomputable def f_MD_publish_L45 : Nat → Nat → Int32 → Int32 → hp_H → Option (Int32 × hp_H)
  | 0, _, _, _, _ => none
  | n + 1, t0, y1, y2, h =>
    (hp_fI h (some t0) 7 4).bind fun x24 =>
    if x24 ≤ y2 then (
      (hp_fI h (some t0) 7 4).bind fun x27 =>
      if x27 = (20 : Int32) then (
        some ((-2 : Int32), h)) else (
        f_MD_publish_L108 FU t0 y1 (0 : Int32) h)) else (
      (hp_fR h (some t0) 7 8).bind fun x30 =>
      (hp_aI h x30 3 y2).bind fun x32 =>
      if x32 = 0 then (
        (hp_o h (some t0) 7).bind fun _ =>
        (f_MD_hasName h t0 y2 y1).bind fun q35 =>
        if q35.1 = 0 then (
          f_MD_publish_L45 n t0 y1 (y2 + 1) q35.2) else (
          (hp_fI q35.2 (some t0) 7 2).bind fun x40 =>
          (hp_o q35.2 (some t0) 7).bind fun _ =>
          (f_MD_orderTo q35.2 t0 y2 (y1 + (1 : Int32)) x40).bind fun q42 =>
          if q42.1 = 0 then (
            some ((-1 : Int32), q42.2)) else (
            f_MD_publish_L45 n t0 y1 (y2 + 1) q42.2))) else (
        f_MD_publish_L45 n t0 y1 (y2 + 1) h))
noncomputable def f_MD_publish (h : hp_H) (t0 : Nat) : Option (Int32 × hp_H) :=
  (hp_o h (some t0) 7).bind fun _ =>
  (f_MD_take h t0).bind fun q1 =>
  (hp_o q1 (some t0) 7).bind fun _ =>
  (f_MD_colonAt q1 t0).bind fun q5 =>
  (hp_o q5.2 (some t0) 7).bind fun _ =>
  (f_MD_isName q5.2 t0 (0 : Int32) q5.1).bind fun q9 =>
  if q9.1 = 0 then (
    some ((-3 : Int32), q9.2)) else (
    (hp_fI q9.2 (some t0) 7 2).bind fun x14 =>
    if q5.1 = x14 then (
      some ((-3 : Int32), q9.2)) else (
      (hp_fI q9.2 (some t0) 7 2).bind fun x17 =>
      (hp_o q9.2 (some t0) 7).bind fun _ =>
      (f_MD_isVersion q9.2 t0 (q5.1 + (1 : Int32)) x17).bind fun q19 =>
      if q19.1 = 0 then (
        some ((-3 : Int32), q19.2)) else (
        f_MD_publish_L45 FU t0 q5.1 (0 : Int32) q19.2)))
noncomputable def f_MD_none (h : hp_H) (t0 : Nat) (p1 : Int32) : Option (Int32 × hp_H) :=
  if p1 < 0 then (
    some ((1 : Int32), h)) else (
    (hp_fI h (some t0) 7 4).bind fun x2 =>
    if p1 < x2 then (
      some ((0 : Int32), h)) else (
      some ((1 : Int32), h)))
noncomputable def f_MD_depend_L83 : Nat → Nat → Int32 → Int32 → Int32 → Int32 → hp_H → Option (Int32 × hp_H)
  | 0, _, _, _, _, _, _ => none
  | n + 1, t0, y1, y2, y4, y5, h =>
    (hp_fI h (some t0) 7 2).bind fun x38 =>
    if x38 ≤ y5 then (
      (hp_fR h (some t0) 7 12).bind fun x41 =>
      (hp_fI h (some t0) 7 2).bind fun x43 =>
      (hp_sI h x41 0 y4 x43).bind fun h45 =>
      (hp_fR h45 (some t0) 7 11).bind fun x47 =>
      (hp_sI h45 x47 3 y4 (vp_nar .boolean y2)).bind fun h49 =>
      (hp_fR h49 (some t0) 7 10).bind fun x51 =>
      (hp_aI h49 x51 0 y1).bind fun x53 =>
      (hp_sI h49 x51 0 y1 (x53 + (1 : Int32))).bind fun h55 =>
      (hp_fR h55 (some t0) 7 10).bind fun x57 =>
      (hp_aI h55 x57 0 y1).bind fun x59 =>
      some ((x59 - (1 : Int32)), h55)) else (
      (hp_fR h (some t0) 7 13).bind fun x61 =>
      (hp_fR h (some t0) 7 3).bind fun x63 =>
      (hp_aI h x63 0 y5).bind fun x65 =>
      (hp_sI h x61 0 ((y4 * (40 : Int32)) + y5) x65).bind fun h67 =>
      f_MD_depend_L83 n t0 y1 y2 y4 (y5 + 1) h67)
noncomputable def f_MD_depend (h : hp_H) (t0 : Nat) (p1 : Int32) (p2 : Int32) : Option (Int32 × hp_H) :=
  (hp_o h (some t0) 7).bind fun _ =>
  (f_MD_take h t0).bind fun q1 =>
  (hp_o q1 (some t0) 7).bind fun _ =>
  (f_MD_none q1 t0 p1).bind fun q5 =>
  if q5.1 = 0 then (
    (hp_o q5.2 (some t0) 7).bind fun _ =>
    (f_MD_colonAt q5.2 t0).bind fun q10 =>
    (hp_o q10.2 (some t0) 7).bind fun _ =>
    (f_MD_isName q10.2 t0 (0 : Int32) q10.1).bind fun q14 =>
    if q14.1 = 0 then (
      some ((-3 : Int32), q14.2)) else (
      (hp_fI q14.2 (some t0) 7 2).bind fun x19 =>
      if q10.1 = x19 then (
        some ((-3 : Int32), q14.2)) else (
        (hp_fI q14.2 (some t0) 7 2).bind fun x22 =>
        (hp_o q14.2 (some t0) 7).bind fun _ =>
        (f_MD_isRange q14.2 t0 (q10.1 + (1 : Int32)) x22).bind fun q24 =>
        if q24.1 = 0 then (
          some ((-3 : Int32), q24.2)) else (
          (hp_fR q24.2 (some t0) 7 10).bind fun x29 =>
          (hp_aI q24.2 x29 0 p1).bind fun x31 =>
          if x31 = (6 : Int32) then (
            some ((-2 : Int32), q24.2)) else (
            (hp_fR q24.2 (some t0) 7 10).bind fun x34 =>
            (hp_aI q24.2 x34 0 p1).bind fun x36 =>
            f_MD_depend_L83 FU t0 p1 p2 ((p1 * (6 : Int32)) + x36) (0 : Int32) q24.2))))) else (
    some ((-1 : Int32), q5.2))
noncomputable def f_MD_exclude_L79 : Nat → Nat → Int32 → Int32 → Int32 → hp_H → Option (Int32 × hp_H)
  | 0, _, _, _, _, _ => none
  | n + 1, t0, y2, y3, y4, h =>
    (hp_fI h (some t0) 7 2).bind fun x35 =>
    if x35 ≤ y4 then (
      (hp_fR h (some t0) 7 15).bind fun x38 =>
      (hp_fI h (some t0) 7 2).bind fun x40 =>
      (hp_sI h x38 0 y3 x40).bind fun h42 =>
      (hp_fR h42 (some t0) 7 14).bind fun x44 =>
      (hp_aI h42 x44 0 y2).bind fun x46 =>
      (hp_sI h42 x44 0 y2 (x46 + (1 : Int32))).bind fun h48 =>
      some ((0 : Int32), h48)) else (
      (hp_fR h (some t0) 7 16).bind fun x50 =>
      (hp_fR h (some t0) 7 3).bind fun x52 =>
      (hp_aI h x52 0 y4).bind fun x54 =>
      (hp_sI h x50 0 ((y3 * (8 : Int32)) + y4) x54).bind fun h56 =>
      f_MD_exclude_L79 n t0 y2 y3 (y4 + 1) h56)
noncomputable def f_MD_exclude (h : hp_H) (t0 : Nat) (p1 : Int32) : Option (Int32 × hp_H) :=
  (hp_o h (some t0) 7).bind fun _ =>
  (f_MD_take h t0).bind fun q1 =>
  (hp_o q1 (some t0) 7).bind fun _ =>
  (f_MD_none q1 t0 p1).bind fun q5 =>
  if q5.1 = 0 then (
    (hp_fR q5.2 (some t0) 7 10).bind fun x10 =>
    (hp_aI q5.2 x10 0 p1).bind fun x12 =>
    if x12 = 0 then (
      some ((-1 : Int32), q5.2)) else (
      (hp_fI q5.2 (some t0) 7 2).bind fun x15 =>
      (hp_o q5.2 (some t0) 7).bind fun _ =>
      (f_MD_isName q5.2 t0 (0 : Int32) x15).bind fun q17 =>
      if q17.1 = 0 then (
        some ((-3 : Int32), q17.2)) else (
        (hp_fR q17.2 (some t0) 7 10).bind fun x22 =>
        (hp_aI q17.2 x22 0 p1).bind fun x24 =>
        (hp_fR q17.2 (some t0) 7 14).bind fun x26 =>
        (hp_aI q17.2 x26 0 (((p1 * (6 : Int32)) + x24) - (1 : Int32))).bind fun x28 =>
        if x28 = (3 : Int32) then (
          some ((-2 : Int32), q17.2)) else (
          (hp_fR q17.2 (some t0) 7 14).bind fun x31 =>
          (hp_aI q17.2 x31 0 (((p1 * (6 : Int32)) + x24) - (1 : Int32))).bind fun x33 =>
          f_MD_exclude_L79 FU t0 (((p1 * (6 : Int32)) + x24) - (1 : Int32)) (((((p1 * (6 : Int32)) + x24) - (1 : Int32)) * (3 : Int32)) + x33) (0 : Int32) q17.2)))) else (
    some ((-1 : Int32), q5.2))
noncomputable def f_MD_pack_L38 (t0 : Nat) (y1 : Int32) (y2 : Int32) (y3 : Int32) (s0 : Int32) (h : hp_H) : Option (Int32 × hp_H) :=
  if s0 = y3 then (
    some ((0 : Int32), h)) else (
    (hp_fR h (some t0) 7 9).bind fun x14 =>
    (hp_aI h x14 0 y1).bind fun x16 =>
    (hp_sI h x14 0 y1 (x16 ^^^ ((1 : Int32) <<< (y2 &&& 31)))).bind fun h18 =>
    some ((0 : Int32), h18))
noncomputable def f_MD_pack (h : hp_H) (t0 : Nat) (p1 : Int32) (p2 : Int32) (p3 : Int32) : Option (Int32 × hp_H) :=
  (hp_o h (some t0) 7).bind fun _ =>
  (f_MD_none h t0 p1).bind fun q1 =>
  if q1.1 = 0 then (
    if p2 < 0 then (
      some ((-1 : Int32), q1.2)) else (
      if p2 ≤ (31 : Int32) then (
        (hp_fR q1.2 (some t0) 7 9).bind fun x8 =>
        (hp_aI q1.2 x8 0 p1).bind fun x10 =>
        if ((x10 >>> (p2 &&& 31)) &&& (1 : Int32)) = 0 then (
          f_MD_pack_L38 t0 p1 p2 p3 (0 : Int32) q1.2) else (
          f_MD_pack_L38 t0 p1 p2 p3 (1 : Int32) q1.2)) else (
        some ((-1 : Int32), q1.2)))) else (
    some ((-1 : Int32), q1.2))
noncomputable def f_MD_retire (h : hp_H) (t0 : Nat) (p1 : Int32) : Option (Int32 × hp_H) :=
  (hp_o h (some t0) 7).bind fun _ =>
  (f_MD_none h t0 p1).bind fun q1 =>
  if q1.1 = 0 then (
    (hp_fR q1.2 (some t0) 7 8).bind fun x6 =>
    (hp_aI q1.2 x6 3 p1).bind fun x8 =>
    if x8 = 0 then (
      (hp_fR q1.2 (some t0) 7 8).bind fun x11 =>
      (hp_sI q1.2 x11 3 p1 (vp_nar .boolean (1 : Int32))).bind fun h13 =>
      some ((0 : Int32), h13)) else (
      some ((-1 : Int32), q1.2))) else (
    some ((-1 : Int32), q1.2))
noncomputable def f_MD_compare_L50 : Nat → Nat → Int32 → Int32 → hp_H → Option (Int32 × hp_H)
  | 0, _, _, _, _ => none
  | n + 1, t0, y1, y2, h =>
    if y1 ≤ y2 then (
      (hp_fI h (some t0) 7 2).bind fun x27 =>
      (hp_o h (some t0) 7).bind fun _ =>
      (f_MD_secondIs h t0 (y1 + (1 : Int32)) x27).bind fun q29 =>
      (hp_o q29 (some t0) 7).bind fun _ =>
      (f_MD_order q29 t0).bind fun q33 =>
      some (((3 : Int32) + q33.1), q33.2)) else (
      (hp_fR h (some t0) 7 24).bind fun x37 =>
      (hp_fR h (some t0) 7 3).bind fun x39 =>
      (hp_aI h x39 0 y2).bind fun x41 =>
      (hp_sI h x37 0 y2 x41).bind fun h43 =>
      f_MD_compare_L50 n t0 y1 (y2 + 1) h43)
noncomputable def f_MD_compare (h : hp_H) (t0 : Nat) : Option (Int32 × hp_H) :=
  (hp_o h (some t0) 7).bind fun _ =>
  (f_MD_take h t0).bind fun q1 =>
  (hp_o q1 (some t0) 7).bind fun _ =>
  (f_MD_colonAt q1 t0).bind fun q5 =>
  (hp_fI q5.2 (some t0) 7 2).bind fun x9 =>
  if q5.1 = x9 then (
    some ((-3 : Int32), q5.2)) else (
    (hp_o q5.2 (some t0) 7).bind fun _ =>
    (f_MD_isVersion q5.2 t0 (0 : Int32) q5.1).bind fun q12 =>
    if q12.1 = 0 then (
      some ((-3 : Int32), q12.2)) else (
      (hp_fI q12.2 (some t0) 7 2).bind fun x17 =>
      (hp_o q12.2 (some t0) 7).bind fun _ =>
      (f_MD_isVersion q12.2 t0 (q5.1 + (1 : Int32)) x17).bind fun q19 =>
      if q19.1 = 0 then (
        some ((-3 : Int32), q19.2)) else (
        (hp_s q19.2 (some t0) 7 25 (.int q5.1)).bind fun h24 =>
        f_MD_compare_L50 FU t0 q5.1 (0 : Int32) h24)))
noncomputable def f_MD_excluded_L38 (k4 : (Nat → Int32 → Int32 → Int32 → hp_H → Option (Int32 × hp_H))) : Nat → Nat → Int32 → Int32 → Int32 → Int32 → Int32 → hp_H → Option (Int32 × hp_H)
  | 0, _, _, _, _, _, _, _ => none
  | n + 1, t0, y1, y2, y3, y4, y5, h =>
    if y2 ≤ y5 then (
      if y4 = 0 then (
        k4 t0 y1 y2 (y3 + 1) h) else (
        some ((1 : Int32), h))) else (
      if y4 = 0 then (
        if y4 = 0 then (
          k4 t0 y1 y2 (y3 + 1) h) else (
          some ((1 : Int32), h))) else (
        (hp_fR h (some t0) 7 16).bind fun x15 =>
        (hp_aI h x15 0 ((y3 * (8 : Int32)) + y5)).bind fun x17 =>
        (hp_fR h (some t0) 7 3).bind fun x19 =>
        (hp_aI h x19 0 y5).bind fun x21 =>
        if x17 = x21 then (
          f_MD_excluded_L38 k4 n t0 y1 y2 y3 (1 : Int32) (y5 + 1) h) else (
          f_MD_excluded_L38 k4 n t0 y1 y2 y3 (0 : Int32) (y5 + 1) h)))
noncomputable def f_MD_excluded_L4 : Nat → Nat → Int32 → Int32 → Int32 → hp_H → Option (Int32 × hp_H)
  | 0, _, _, _, _, _ => none
  | n + 1, t0, y1, y2, y3, h =>
    (hp_fR h (some t0) 7 14).bind fun x1 =>
    (hp_aI h x1 0 y1).bind fun x3 =>
    if ((y1 * (3 : Int32)) + x3) ≤ y3 then (
      some ((0 : Int32), h)) else (
      (hp_fR h (some t0) 7 15).bind fun x6 =>
      (hp_aI h x6 0 y3).bind fun x8 =>
      if x8 = y2 then (
        f_MD_excluded_L38 (f_MD_excluded_L4 n) FU t0 y1 y2 y3 (1 : Int32) (0 : Int32) h) else (
        f_MD_excluded_L38 (f_MD_excluded_L4 n) FU t0 y1 y2 y3 (0 : Int32) (0 : Int32) h))
noncomputable def f_MD_excluded (h : hp_H) (t0 : Nat) (p1 : Int32) (p2 : Int32) : Option (Int32 × hp_H) :=
  f_MD_excluded_L4 FU t0 p1 p2 (p1 * (3 : Int32)) h
noncomputable def f_MD_barred_L2 : Nat → Nat → Int32 → Int32 → hp_H → Option (Int32 × hp_H)
  | 0, _, _, _, _ => none
  | n + 1, t0, y2, y3, h =>
    if y3 ≤ (20 : Int32) then (
      some ((0 : Int32), h)) else (
      (hp_fR h (some t0) 7 23).bind fun x2 =>
      (hp_aI h x2 0 y3).bind fun x4 =>
      (hp_o h (some t0) 7).bind fun _ =>
      (f_MD_excluded h t0 x4 y2).bind fun q6 =>
      if q6.1 = 0 then (
        (hp_fR q6.2 (some t0) 7 22).bind fun x11 =>
        (hp_aI q6.2 x11 0 y3).bind fun x13 =>
        f_MD_barred_L2 n t0 y2 x13 q6.2) else (
        some ((1 : Int32), q6.2)))
noncomputable def f_MD_barred (h : hp_H) (t0 : Nat) (p1 : Int32) (p2 : Int32) : Option (Int32 × hp_H) :=
  f_MD_barred_L2 FU t0 p2 p1 h
noncomputable def f_MD_add (h : hp_H) (t0 : Nat) (p1 : Int32) (p2 : Int32) (p3 : Int32) (p4 : Int32) : Option (hp_H) :=
  (hp_fI h (some t0) 7 19).bind fun x1 =>
  (hp_fR h (some t0) 7 20).bind fun x3 =>
  (hp_sI h x3 0 ((20 : Int32) + x1) p1).bind fun h5 =>
  (hp_fR h5 (some t0) 7 21).bind fun x7 =>
  (hp_sI h5 x7 0 ((20 : Int32) + x1) p2).bind fun h9 =>
  (hp_fR h9 (some t0) 7 22).bind fun x11 =>
  (hp_sI h9 x11 0 ((20 : Int32) + x1) p3).bind fun h13 =>
  (hp_fR h13 (some t0) 7 23).bind fun x15 =>
  (hp_sI h13 x15 0 ((20 : Int32) + x1) p4).bind fun h17 =>
  (hp_fI h17 (some t0) 7 19).bind fun x19 =>
  (hp_s h17 (some t0) 7 19 (.int (x19 + (1 : Int32)))).bind fun h21 =>
  some h21
noncomputable def f_MD_need_L43 : Nat → Nat → Int32 → Int32 → Int32 → Int32 → hp_H → Option (Int32 × hp_H)
  | 0, _, _, _, _, _, _ => none
  | n + 1, t0, y1, y2, y3, y4, h =>
    (hp_fI h (some t0) 7 19).bind fun x24 =>
    if ((20 : Int32) + x24) ≤ y4 then (
      (hp_o h (some t0) 7).bind fun _ =>
      (f_MD_pick h t0).bind fun q27 =>
      if 0 ≤ q27.1 then (
        (hp_fR q27.2 (some t0) 7 21).bind fun x32 =>
        (hp_aI q27.2 x32 0 y1).bind fun x34 =>
        (hp_o q27.2 (some t0) 7).bind fun _ =>
        (f_MD_add q27.2 t0 q27.1 (x34 + (1 : Int32)) y1 y2).bind fun q36 =>
        some ((0 : Int32), q36)) else (
        some ((-4 : Int32), q27.2))) else (
      (hp_fR h (some t0) 7 20).bind fun x40 =>
      (hp_aI h x40 0 y4).bind fun x42 =>
      (hp_o h (some t0) 7).bind fun _ =>
      (f_MD_hasName h t0 x42 y3).bind fun q44 =>
      if q44.1 = 0 then (
        f_MD_need_L43 n t0 y1 y2 y3 (y4 + 1) q44.2) else (
        (hp_fI q44.2 (some t0) 7 2).bind fun x49 =>
        (hp_o q44.2 (some t0) 7).bind fun _ =>
        (f_MD_isVersion q44.2 t0 (y3 + (1 : Int32)) x49).bind fun q51 =>
        if q51.1 = 0 then (
          (hp_fR q51.2 (some t0) 7 20).bind fun x56 =>
          (hp_aI q51.2 x56 0 y4).bind fun x58 =>
          (hp_o q51.2 (some t0) 7).bind fun _ =>
          (f_MD_holds q51.2 t0 x58 (y3 + (1 : Int32))).bind fun q60 =>
          if q60.1 = 0 then (
            some ((-5 : Int32), q60.2)) else (
            some ((0 : Int32), q60.2))) else (
          some ((0 : Int32), q51.2))))
noncomputable def f_MD_need (h : hp_H) (t0 : Nat) (p1 : Int32) (p2 : Int32) : Option (Int32 × hp_H) :=
  (hp_o h (some t0) 7).bind fun _ =>
  (f_MD_takeDependency h t0 p2).bind fun q1 =>
  (hp_o q1 (some t0) 7).bind fun _ =>
  (f_MD_colonAt q1 t0).bind fun q5 =>
  (hp_o q5.2 (some t0) 7).bind fun _ =>
  (f_MD_barred q5.2 t0 p1 q5.1).bind fun q9 =>
  if q9.1 = 0 then (
    (hp_fR q9.2 (some t0) 7 11).bind fun x14 =>
    (hp_aI q9.2 x14 3 p2).bind fun x16 =>
    if x16 = 0 then (
      f_MD_need_L43 FU t0 p1 p2 q5.1 (20 : Int32) q9.2) else (
      (hp_fR q9.2 (some t0) 7 21).bind fun x19 =>
      (hp_aI q9.2 x19 0 p1).bind fun x21 =>
      if x21 ≤ 0 then (
        f_MD_need_L43 FU t0 p1 p2 q5.1 (20 : Int32) q9.2) else (
        some ((0 : Int32), q9.2)))) else (
    some ((0 : Int32), q9.2))
noncomputable def f_MD_resolve_L171 : Nat → Nat → Int32 → hp_H → Option (Int32 × hp_H)
  | 0, _, _, _ => none
  | n + 1, t0, y3, h =>
    (hp_fI h (some t0) 7 18).bind fun x44 =>
    if x44 ≤ y3 then (
      (hp_fI h (some t0) 7 18).bind fun x47 =>
      some (x47, h)) else (
      (hp_fR h (some t0) 7 20).bind fun x49 =>
      (hp_fR h (some t0) 7 20).bind fun x51 =>
      (hp_aI h x51 0 (y3 + (20 : Int32))).bind fun x53 =>
      (hp_sI h x49 0 y3 x53).bind fun h55 =>
      (hp_fR h55 (some t0) 7 21).bind fun x57 =>
      (hp_fR h55 (some t0) 7 21).bind fun x59 =>
      (hp_aI h55 x59 0 (y3 + (20 : Int32))).bind fun x61 =>
      (hp_sI h55 x57 0 y3 x61).bind fun h63 =>
      (hp_fR h63 (some t0) 7 22).bind fun x65 =>
      (hp_fR h63 (some t0) 7 22).bind fun x67 =>
      (hp_aI h63 x67 0 (y3 + (20 : Int32))).bind fun x69 =>
      (hp_sI h63 x65 0 y3 (x69 - (20 : Int32))).bind fun h71 =>
      f_MD_resolve_L171 n t0 (y3 + 1) h71)
noncomputable def f_MD_resolve_L90 (k76 : (Nat → Int32 → hp_H → Option (Int32 × hp_H))) : Nat → Nat → Int32 → Int32 → hp_H → Option (Int32 × hp_H)
  | 0, _, _, _, _ => none
  | n + 1, t0, y3, y4, h =>
    (hp_fR h (some t0) 7 10).bind fun x73 =>
    (hp_fR h (some t0) 7 20).bind fun x75 =>
    (hp_aI h x75 0 y3).bind fun x77 =>
    (hp_aI h x73 0 x77).bind fun x79 =>
    if x79 ≤ y4 then (
      k76 t0 (y3 + 1) h) else (
      (hp_fR h (some t0) 7 20).bind fun x82 =>
      (hp_aI h x82 0 y3).bind fun x84 =>
      (hp_o h (some t0) 7).bind fun _ =>
      (f_MD_need h t0 y3 ((x84 * (6 : Int32)) + y4)).bind fun q86 =>
      if 0 ≤ q86.1 then (
        f_MD_resolve_L90 k76 n t0 y3 (y4 + 1) q86.2) else (
        (hp_fR q86.2 (some t0) 7 20).bind fun x91 =>
        (hp_aI q86.2 x91 0 y3).bind fun x93 =>
        (hp_s q86.2 (some t0) 7 17 (.int (((8 : Int32) * x93) + y4))).bind fun h95 =>
        some (q86.1, h95)))
noncomputable def f_MD_resolve_L76 : Nat → Nat → Int32 → hp_H → Option (Int32 × hp_H)
  | 0, _, _, _ => none
  | n + 1, t0, y3, h =>
    (hp_fI h (some t0) 7 19).bind fun x37 =>
    if ((20 : Int32) + x37) ≤ y3 then (
      (hp_fI h (some t0) 7 19).bind fun x40 =>
      (hp_s h (some t0) 7 18 (.int x40)).bind fun h42 =>
      f_MD_resolve_L171 FU t0 (0 : Int32) h42) else (
      f_MD_resolve_L90 (f_MD_resolve_L76 n) FU t0 y3 (0 : Int32) h)
noncomputable def f_MD_resolve (h : hp_H) (t0 : Nat) : Option (Int32 × hp_H) :=
  (hp_o h (some t0) 7).bind fun _ =>
  (f_MD_take h t0).bind fun q1 =>
  (hp_o q1 (some t0) 7).bind fun _ =>
  (f_MD_colonAt q1 t0).bind fun q5 =>
  (hp_o q5.2 (some t0) 7).bind fun _ =>
  (f_MD_isName q5.2 t0 (0 : Int32) q5.1).bind fun q9 =>
  if q9.1 = 0 then (
    some ((-3 : Int32), q9.2)) else (
    (hp_fI q9.2 (some t0) 7 2).bind fun x14 =>
    if q5.1 = x14 then (
      some ((-3 : Int32), q9.2)) else (
      (hp_fI q9.2 (some t0) 7 2).bind fun x17 =>
      (hp_o q9.2 (some t0) 7).bind fun _ =>
      (f_MD_isRange q9.2 t0 (q5.1 + (1 : Int32)) x17).bind fun q19 =>
      if q19.1 = 0 then (
        some ((-3 : Int32), q19.2)) else (
        (hp_s q19.2 (some t0) 7 17 (.int (-1 : Int32))).bind fun h24 =>
        (hp_o h24 (some t0) 7).bind fun _ =>
        (f_MD_pick h24 t0).bind fun q26 =>
        if 0 ≤ q26.1 then (
          (hp_s q26.2 (some t0) 7 19 (.int (0 : Int32))).bind fun h31 =>
          (hp_o h31 (some t0) 7).bind fun _ =>
          (f_MD_add h31 t0 q26.1 (0 : Int32) (-1 : Int32) (-1 : Int32)).bind fun q33 =>
          f_MD_resolve_L76 FU t0 (20 : Int32) q33) else (
          some ((-4 : Int32), q26.2)))))
noncomputable def f_MD_culprit (h : hp_H) (t0 : Nat) : Option (Int32 × hp_H) :=
  (hp_fI h (some t0) 7 17).bind fun x1 =>
  some (x1, h)
noncomputable def f_MD_entry (h : hp_H) (t0 : Nat) (p1 : Int32) : Option (Int32 × hp_H) :=
  if p1 < 0 then (
    some ((-1 : Int32), h)) else (
    (hp_fI h (some t0) 7 18).bind fun x2 =>
    if p1 < x2 then (
      (hp_fR h (some t0) 7 20).bind fun x5 =>
      (hp_aI h x5 0 p1).bind fun x7 =>
      some (x7, h)) else (
      some ((-1 : Int32), h)))
noncomputable def f_MD_depth (h : hp_H) (t0 : Nat) (p1 : Int32) : Option (Int32 × hp_H) :=
  if p1 < 0 then (
    some ((-1 : Int32), h)) else (
    (hp_fI h (some t0) 7 18).bind fun x2 =>
    if p1 < x2 then (
      (hp_fR h (some t0) 7 21).bind fun x5 =>
      (hp_aI h x5 0 p1).bind fun x7 =>
      some (x7, h)) else (
      some ((-1 : Int32), h)))
noncomputable def f_MD_parent (h : hp_H) (t0 : Nat) (p1 : Int32) : Option (Int32 × hp_H) :=
  if p1 < (1 : Int32) then (
    some ((-1 : Int32), h)) else (
    (hp_fI h (some t0) 7 18).bind fun x2 =>
    if p1 < x2 then (
      (hp_fR h (some t0) 7 22).bind fun x5 =>
      (hp_aI h x5 0 p1).bind fun x7 =>
      some (x7, h)) else (
      some ((-1 : Int32), h)))
noncomputable def f_MD_find_L21 : Nat → Nat → Int32 → Int32 → Int32 → Int32 → hp_H → Option (Int32 × hp_H)
  | 0, _, _, _, _, _, _ => none
  | n + 1, t0, y1, y2, y3, y4, h =>
    (hp_fI h (some t0) 7 18).bind fun x4 =>
    if x4 ≤ y4 then (
      some (y3, h)) else (
      (hp_fR h (some t0) 7 21).bind fun x7 =>
      (hp_aI h x7 0 y4).bind fun x9 =>
      if x9 < y1 then (
        f_MD_find_L21 n t0 y1 y2 y3 (y4 + 1) h) else (
        (hp_fR h (some t0) 7 9).bind fun x12 =>
        (hp_fR h (some t0) 7 20).bind fun x14 =>
        (hp_aI h x14 0 y4).bind fun x16 =>
        (hp_aI h x12 0 x16).bind fun x18 =>
        if ((x18 >>> (y2 &&& 31)) &&& (1 : Int32)) = 0 then (
          f_MD_find_L21 n t0 y1 y2 y3 (y4 + 1) h) else (
          if y3 < 0 then (
            f_MD_find_L21 n t0 y1 y2 y4 (y4 + 1) h) else (
            (hp_fR h (some t0) 7 21).bind fun x22 =>
            (hp_aI h x22 0 y4).bind fun x24 =>
            (hp_fR h (some t0) 7 21).bind fun x26 =>
            (hp_aI h x26 0 y3).bind fun x28 =>
            if x24 ≤ x28 then (
              f_MD_find_L21 n t0 y1 y2 y3 (y4 + 1) h) else (
              f_MD_find_L21 n t0 y1 y2 y4 (y4 + 1) h)))))
noncomputable def f_MD_find (h : hp_H) (t0 : Nat) (p1 : Int32) (p2 : Int32) : Option (Int32 × hp_H) :=
  if p1 < 0 then (
    some ((-1 : Int32), h)) else (
    if p2 < 0 then (
      some ((-1 : Int32), h)) else (
      if p2 ≤ (31 : Int32) then (
        f_MD_find_L21 FU t0 p1 p2 (-1 : Int32) (0 : Int32) h) else (
        some ((-1 : Int32), h))))
noncomputable def f_MD_text (h : hp_H) (t0 : Nat) (p1 : Int32) (p2 : Int32) : Option (Int32 × hp_H) :=
  (hp_o h (some t0) 7).bind fun _ =>
  (f_MD_none h t0 p1).bind fun q1 =>
  if q1.1 = 0 then (
    if p2 < (-1 : Int32) then (
      some ((-1 : Int32), q1.2)) else (
      (hp_fR q1.2 (some t0) 7 5).bind fun x7 =>
      (hp_aI q1.2 x7 0 p1).bind fun x9 =>
      if p2 < x9 then (
        if 0 ≤ p2 then (
          (hp_fR q1.2 (some t0) 7 6).bind fun x13 =>
          (hp_aI q1.2 x13 0 ((p1 * (21 : Int32)) + p2)).bind fun x15 =>
          some (x15, q1.2)) else (
          (hp_fR q1.2 (some t0) 7 5).bind fun x17 =>
          (hp_aI q1.2 x17 0 p1).bind fun x19 =>
          some (x19, q1.2))) else (
        some ((-1 : Int32), q1.2)))) else (
    some ((-1 : Int32), q1.2))
noncomputable def f_MD_holders_L4 : Nat → Nat → Int32 → Int32 → Int32 → hp_H → Option (Int32 × hp_H)
  | 0, _, _, _, _, _ => none
  | n + 1, t0, y1, y2, y3, h =>
    (hp_fI h (some t0) 7 18).bind fun x1 =>
    if x1 ≤ y3 then (
      some (y2, h)) else (
      (hp_fR h (some t0) 7 9).bind fun x4 =>
      (hp_fR h (some t0) 7 20).bind fun x6 =>
      (hp_aI h x6 0 y3).bind fun x8 =>
      (hp_aI h x4 0 x8).bind fun x10 =>
      f_MD_holders_L4 n t0 y1 (y2 + ((x10 >>> (y1 &&& 31)) &&& (1 : Int32))) (y3 + 1) h)
noncomputable def f_MD_holders (h : hp_H) (t0 : Nat) (p1 : Int32) : Option (Int32 × hp_H) :=
  f_MD_holders_L4 FU t0 p1 (0 : Int32) (0 : Int32) h
noncomputable def f_MD_count_L104 (t0 : Nat) (y1 : Int32) (y2 : Int32) (h : hp_H) : Option (Int32 × hp_H) :=
  if y1 = 0 then (
    (hp_fI h (some t0) 7 4).bind fun x34 =>
    some (x34, h)) else (
    if y1 = (2 : Int32) then (
      (hp_fI h (some t0) 7 0).bind fun x32 =>
      some (x32, h)) else (
      if y1 = (3 : Int32) then (
        (hp_fI h (some t0) 7 18).bind fun x30 =>
        some (x30, h)) else (
        if y1 = (1 : Int32) then (
          some (y2, h)) else (
          if y1 = (4 : Int32) then (
            some (y2, h)) else (
            if y1 = (5 : Int32) then (
              some (y2, h)) else (
              some ((-1 : Int32), h)))))))
noncomputable def f_MD_count_L80 : Nat → Nat → Int32 → Int32 → Int32 → hp_H → Option (Int32 × hp_H)
  | 0, _, _, _, _, _ => none
  | n + 1, t0, y1, y2, y3, h =>
    if (32 : Int32) ≤ y3 then (
      f_MD_count_L104 t0 y1 y2 h) else (
      (hp_o h (some t0) 7).bind fun _ =>
      (f_MD_holders h t0 y3).bind fun q37 =>
      if q37.1 ≤ (1 : Int32) then (
        f_MD_count_L80 n t0 y1 y2 (y3 + 1) q37.2) else (
        f_MD_count_L80 n t0 y1 (y2 + 1) (y3 + 1) q37.2))
noncomputable def f_MD_count_L73 (t0 : Nat) (y1 : Int32) (y2 : Int32) (h : hp_H) : Option (Int32 × hp_H) :=
  if y1 = (5 : Int32) then (
    f_MD_count_L80 FU t0 y1 y2 (0 : Int32) h) else (
    f_MD_count_L104 t0 y1 y2 h)
noncomputable def f_MD_count_L42 : Nat → Nat → Int32 → Int32 → Int32 → hp_H → Option (Int32 × hp_H)
  | 0, _, _, _, _, _ => none
  | n + 1, t0, y1, y2, y3, h =>
    (hp_fI h (some t0) 7 18).bind fun x12 =>
    if x12 ≤ y3 then (
      f_MD_count_L73 t0 y1 y2 h) else (
      (hp_fR h (some t0) 7 21).bind fun x15 =>
      (hp_aI h x15 0 y3).bind fun x17 =>
      if x17 ≤ y2 then (
        f_MD_count_L42 n t0 y1 y2 (y3 + 1) h) else (
        (hp_fR h (some t0) 7 21).bind fun x20 =>
        (hp_aI h x20 0 y3).bind fun x22 =>
        f_MD_count_L42 n t0 y1 x22 (y3 + 1) h))
noncomputable def f_MD_count_L35 (t0 : Nat) (y1 : Int32) (y2 : Int32) (h : hp_H) : Option (Int32 × hp_H) :=
  if y1 = (4 : Int32) then (
    f_MD_count_L42 FU t0 y1 y2 (0 : Int32) h) else (
    f_MD_count_L73 t0 y1 y2 h)
noncomputable def f_MD_count_L9 : Nat → Nat → Int32 → Int32 → Int32 → hp_H → Option (Int32 × hp_H)
  | 0, _, _, _, _, _ => none
  | n + 1, t0, y1, y2, y3, h =>
    (hp_fI h (some t0) 7 4).bind fun x3 =>
    if x3 ≤ y3 then (
      f_MD_count_L35 t0 y1 y2 h) else (
      (hp_fR h (some t0) 7 8).bind fun x6 =>
      (hp_aI h x6 3 y3).bind fun x8 =>
      if x8 = 0 then (
        f_MD_count_L9 n t0 y1 y2 (y3 + 1) h) else (
        f_MD_count_L9 n t0 y1 (y2 + 1) (y3 + 1) h))
noncomputable def f_MD_count (h : hp_H) (t0 : Nat) (p1 : Int32) : Option (Int32 × hp_H) :=
  if p1 = (1 : Int32) then (
    f_MD_count_L9 FU t0 p1 (0 : Int32) (0 : Int32) h) else (
    f_MD_count_L35 t0 p1 (0 : Int32) h)
