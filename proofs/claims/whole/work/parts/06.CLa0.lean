set_option maxRecDepth 100000 in
set_option maxHeartbeats 4000000 in
theorem k_LN_init (l : Launch) (G : hp_G) (B : Nat) (h : hp_H) (t0 : Nat) (out : hp_H) (hf : f_LN_init h t0 = some out) : Met l y_LN_init (.code y_LN_init b_LN_init 1 ((Option.none : Option Jvm.ClassFile.FieldType)) :: gt) ({ frames := 1, cells := 1, slots := 40, locals := 20 }) (hq_Pc G vwCl aTs B h [.ref t0]) (hq_Q G vwCl B none out) 1 40 (fun q => B ≤ q) := by
  refine hq_enter (nL := 1) (by decide +kernel) (Nat.le_of_ble_eq_true rfl) ?_
  intro p e s m args below meth c C I ls hl
  have hl : lv_has ls 1 [(0, va_rf (some t0))] := hl
  unfold f_LN_init at hf
  refine hq_aload_n C.1.1 C.1.2.1 d_LN_init_0 rfl (lv_at hl 0 rfl) ?_
  refine W.objInit C.1.1 C.1.2.1 C.1.2.2.2.1 (C.1.2.2.2.2 _ g60) (C.1.2.2.2.2 _ g53) (C.1.2.2.2.2 _ g54) rfl (by rw [C.1.2.2.1]; exact hl.1) rfl d_LN_init_1 (Nat.le_of_ble_eq_true rfl) (Nat.le_of_ble_eq_true rfl) ?_
  refine W.eq (g2 := F0 m 4 ls []) rfl ?_
  refine hq_aload_n C.1.1 C.1.2.1 d_LN_init_4 rfl (lv_at hl 0 rfl) ?_
  refine lv_bipush (v := 40) C.1.1 C.1.2.1 d_LN_init_5 (by decide) ?_
  refine hq_newa C I (t := 2) (x := .inl (fun _ => 0)) rfl rfl g72 (mx := 40) (fun cA => rfl) (by decide) (by decide) (Nat.le_refl _) (by decide) (Nat.le_of_ble_eq_true rfl) (Nat.le_of_ble_eq_true rfl) d_LN_init_7 (fun H I => ?_)
  refine W.widen (k := 1) (n := 40) (by decide) (by decide) ?_
  replace hf := Option.bind_eq_some_iff.mp hf
  obtain ⟨h1, e2, hf⟩ := hf
  rw [Option.some.inj e2] at I
  replace hf := Option.bind_eq_some_iff.mp hf
  obtain ⟨h3, e4, hf⟩ := hf
  refine hq_putF C I F_LN_9 (fun r hr => by cases hr; rfl) e4 (hq_rfa _ _).1 (hq_rfa _ _).2 d_LN_init_9 (fun H locs I => ?_)
  refine hq_aload_n C.1.1 C.1.2.1 d_LN_init_12 rfl (lv_at hl 0 rfl) ?_
  refine lv_iconst (v := 0) C.1.1 C.1.2.1 d_LN_init_13 (by decide) ?_
  replace hf := Option.bind_eq_some_iff.mp hf
  obtain ⟨h5, e6, hf⟩ := hf
  refine hq_put C I F_LN_15 e6 rfl rfl d_LN_init_14 (fun H locs I => ?_)
  refine hq_aload_n C.1.1 C.1.2.1 d_LN_init_17 rfl (lv_at hl 0 rfl) ?_
  refine lv_iconst (v := 0) C.1.1 C.1.2.1 d_LN_init_18 (by decide) ?_
  replace hf := Option.bind_eq_some_iff.mp hf
  obtain ⟨h7, e8, hf⟩ := hf
  refine hq_put C I F_LN_19 e8 rfl rfl d_LN_init_19 (fun H locs I => ?_)
  cases hf
  exact hq_vret C I (by decide) (by decide) d_LN_init_22
set_option maxRecDepth 100000 in
set_option maxHeartbeats 4000000 in
theorem k_EL_init (l : Launch) (G : hp_G) (B : Nat) (h : hp_H) (t0 : Nat) (out : hp_H) (hf : f_EL_init h t0 = some out) : Met l y_EL_init (.code y_EL_init b_EL_init 1 ((Option.none : Option Jvm.ClassFile.FieldType)) :: gt) ({ frames := 1, cells := 4, slots := 80, locals := 20 }) (hq_Pc G vwCl aTs B h [.ref t0]) (hq_Q G vwCl B none out) 4 80 (fun q => B ≤ q) := by
  refine hq_enter (nL := 1) (by decide +kernel) (Nat.le_of_ble_eq_true rfl) ?_
  intro p e s m args below meth c C I ls hl
  have hl : lv_has ls 1 [(0, va_rf (some t0))] := hl
  unfold f_EL_init at hf
  refine hq_aload_n C.1.1 C.1.2.1 d_EL_init_0 rfl (lv_at hl 0 rfl) ?_
  refine W.objInit C.1.1 C.1.2.1 C.1.2.2.2.1 (C.1.2.2.2.2 _ g80) (C.1.2.2.2.2 _ g53) (C.1.2.2.2.2 _ g54) rfl (by rw [C.1.2.2.1]; exact hl.1) rfl d_EL_init_1 (Nat.le_of_ble_eq_true rfl) (Nat.le_of_ble_eq_true rfl) ?_
  refine W.eq (g2 := F0 m 4 ls []) rfl ?_
  refine hq_aload_n C.1.1 C.1.2.1 d_EL_init_4 rfl (lv_at hl 0 rfl) ?_
  refine lv_bipush (v := 20) C.1.1 C.1.2.1 d_EL_init_5 (by decide) ?_
  refine hq_newq C I (t := 4) rfl g81 (by decide) (mx := 20) (by decide) (by decide) (Nat.le_refl _) (by decide) (Nat.le_of_ble_eq_true rfl) (Nat.le_of_ble_eq_true rfl) d_EL_init_7 (fun H I => ?_)
  refine W.widen (k := 1) (n := 20) (by decide) (by decide) ?_
  replace hf := Option.bind_eq_some_iff.mp hf
  obtain ⟨h1, e2, hf⟩ := hf
  rw [Option.some.inj e2] at I
  replace hf := Option.bind_eq_some_iff.mp hf
  obtain ⟨h3, e4, hf⟩ := hf
  refine hq_putF C I F_EL_11 (fun r hr => by cases hr; rfl) e4 (hq_rfa _ _).1 (hq_rfa _ _).2 d_EL_init_10 (fun H locs I => ?_)
  refine hq_aload_n C.1.1 C.1.2.1 d_EL_init_13 rfl (lv_at hl 0 rfl) ?_
  refine lv_bipush (v := 20) C.1.1 C.1.2.1 d_EL_init_14 (by decide) ?_
  refine hq_newa C I (t := 0) (x := .inl (fun _ => 0)) rfl rfl g104 (mx := 20) (fun cA => rfl) (by decide) (by decide) (Nat.le_refl _) (by decide) (Nat.le_of_ble_eq_true rfl) (Nat.le_of_ble_eq_true rfl) d_EL_init_16 (fun H I => ?_)
  refine W.widen (k := 2) (n := 40) (by decide) (by decide) ?_
  replace hf := Option.bind_eq_some_iff.mp hf
  obtain ⟨h5, e6, hf⟩ := hf
  rw [Option.some.inj e6] at I
  replace hf := Option.bind_eq_some_iff.mp hf
  obtain ⟨h7, e8, hf⟩ := hf
  refine hq_putF C I F_EL_17 (fun r hr => by cases hr; rfl) e8 (hq_rfa _ _).1 (hq_rfa _ _).2 d_EL_init_18 (fun H locs I => ?_)
  refine hq_aload_n C.1.1 C.1.2.1 d_EL_init_21 rfl (lv_at hl 0 rfl) ?_
  refine lv_bipush (v := 20) C.1.1 C.1.2.1 d_EL_init_22 (by decide) ?_
  refine hq_newa C I (t := 0) (x := .inl (fun _ => 0)) rfl rfl g104 (mx := 20) (fun cA => rfl) (by decide) (by decide) (Nat.le_refl _) (by decide) (Nat.le_of_ble_eq_true rfl) (Nat.le_of_ble_eq_true rfl) d_EL_init_24 (fun H I => ?_)
  refine W.widen (k := 3) (n := 60) (by decide) (by decide) ?_
  replace hf := Option.bind_eq_some_iff.mp hf
  obtain ⟨h9, e10, hf⟩ := hf
  rw [Option.some.inj e10] at I
  replace hf := Option.bind_eq_some_iff.mp hf
  obtain ⟨h11, e12, hf⟩ := hf
  refine hq_putF C I F_EL_21 (fun r hr => by cases hr; rfl) e12 (hq_rfa _ _).1 (hq_rfa _ _).2 d_EL_init_26 (fun H locs I => ?_)
  refine hq_aload_n C.1.1 C.1.2.1 d_EL_init_29 rfl (lv_at hl 0 rfl) ?_
  refine lv_bipush (v := 20) C.1.1 C.1.2.1 d_EL_init_30 (by decide) ?_
  refine hq_newq C I (t := 5) rfl g82 (by decide) (mx := 20) (by decide) (by decide) (Nat.le_refl _) (by decide) (Nat.le_of_ble_eq_true rfl) (Nat.le_of_ble_eq_true rfl) d_EL_init_32 (fun H I => ?_)
  refine W.widen (k := 4) (n := 80) (by decide) (by decide) ?_
  replace hf := Option.bind_eq_some_iff.mp hf
  obtain ⟨h13, e14, hf⟩ := hf
  rw [Option.some.inj e14] at I
  replace hf := Option.bind_eq_some_iff.mp hf
  obtain ⟨h15, e16, hf⟩ := hf
  refine hq_putF C I F_EL_26 (fun r hr => by cases hr; rfl) e16 (hq_rfa _ _).1 (hq_rfa _ _).2 d_EL_init_35 (fun H locs I => ?_)
  refine hq_aload_n C.1.1 C.1.2.1 d_EL_init_38 rfl (lv_at hl 0 rfl) ?_
  refine lv_iconst (v := 0) C.1.1 C.1.2.1 d_EL_init_39 (by decide) ?_
  replace hf := Option.bind_eq_some_iff.mp hf
  obtain ⟨h17, e18, hf⟩ := hf
  refine hq_put C I F_EL_30 e18 rfl rfl d_EL_init_40 (fun H locs I => ?_)
  cases hf
  exact hq_vret C I (by decide) (by decide) d_EL_init_43
set_option maxRecDepth 100000 in
set_option maxHeartbeats 4000000 in
theorem k_LL_init (l : Launch) (G : hp_G) (B : Nat) (h : hp_H) (t0 : Nat) (out : hp_H) (hf : f_LL_init h t0 = some out) : Met l y_LL_init (.code y_LL_init b_LL_init 1 ((Option.none : Option Jvm.ClassFile.FieldType)) :: gt) ({ frames := 2, cells := 13, slots := 233, locals := 40 }) (hq_Pc G vwCl aTs B h [.ref t0]) (hq_Q G vwCl B none out) 13 233 (fun q => B ≤ q) := by
  refine hq_enter (nL := 1) (by decide +kernel) (Nat.le_of_ble_eq_true rfl) ?_
  intro p e s m args below meth c C I ls hl
  have hl : lv_has ls 1 [(0, va_rf (some t0))] := hl
  unfold f_LL_init at hf
  refine hq_aload_n C.1.1 C.1.2.1 d_LL_init_0 rfl (lv_at hl 0 rfl) ?_
  refine W.objInit C.1.1 C.1.2.1 C.1.2.2.2.1 (C.1.2.2.2.2 _ g52) (C.1.2.2.2.2 _ g53) (C.1.2.2.2.2 _ g54) rfl (by rw [C.1.2.2.1]; exact hl.1) rfl d_LL_init_1 (Nat.le_of_ble_eq_true rfl) (Nat.le_of_ble_eq_true rfl) ?_
  refine W.eq (g2 := F0 m 4 ls []) rfl ?_
  refine hq_aload_n C.1.1 C.1.2.1 d_LL_init_4 rfl (lv_at hl 0 rfl) ?_
  refine hq_new C I K_LN g55 g56 g37 (fs := [.null, .int 0, .int 0]) (fun j hj => born_LN j hj) (Nat.le_of_ble_eq_true rfl) (Nat.le_of_ble_eq_true rfl) d_LL_init_5 (fun H I => ?_)
  refine W.widen (k := 1) (n := 3) (by decide) (by decide) ?_
  replace hf := Option.bind_eq_some_iff.mp hf
  obtain ⟨h3, e2, hf⟩ := hf
  rw [Option.some.inj e2] at I
  refine lv_dup C.1.1 C.1.2.1 d_LL_init_8 (hq_cat _) ?_
  replace hf := Option.bind_eq_some_iff.mp hf
  obtain ⟨q4, e5, hf⟩ := hf
  refine hq_callIN gt_good C I hl.1 (k_LN_init l G B _ h.2 q4 e5) M_LL_9 ⟨rfl, rfl⟩ ⟨Nat.le_of_ble_eq_true rfl, Nat.le_of_ble_eq_true rfl⟩ rfl (by simp [hq_cat, hq_catI, hq_catL]) d_LL_init_9 ⟨Nat.le_of_ble_eq_true rfl, Nat.le_of_ble_eq_true rfl⟩ (fun H locs I => ?_)
  refine W.widen (k := 2) (n := 43) (by decide) (by decide) ?_
  replace hf := Option.bind_eq_some_iff.mp hf
  obtain ⟨h6, e7, hf⟩ := hf
  refine hq_putF C I F_LL_10 (fun r hr => by cases hr; rfl) e7 (hq_rff _ _).1 (hq_rff _ _).2 d_LL_init_12 (fun H locs I => ?_)
  refine hq_aload_n C.1.1 C.1.2.1 d_LL_init_15 rfl (lv_at hl 0 rfl) ?_
  refine lv_bipush (v := 20) C.1.1 C.1.2.1 d_LL_init_16 (by decide) ?_
  refine hq_newq C I (t := 4) rfl g73 (by decide) (mx := 20) (by decide) (by decide) (Nat.le_refl _) (by decide) (Nat.le_of_ble_eq_true rfl) (Nat.le_of_ble_eq_true rfl) d_LL_init_18 (fun H I => ?_)
  refine W.widen (k := 3) (n := 63) (by decide) (by decide) ?_
  replace hf := Option.bind_eq_some_iff.mp hf
  obtain ⟨h8, e9, hf⟩ := hf
  rw [Option.some.inj e9] at I
  replace hf := Option.bind_eq_some_iff.mp hf
  obtain ⟨h10, e11, hf⟩ := hf
  refine hq_putF C I F_LL_18 (fun r hr => by cases hr; rfl) e11 (hq_rfa _ _).1 (hq_rfa _ _).2 d_LL_init_21 (fun H locs I => ?_)
  refine hq_aload_n C.1.1 C.1.2.1 d_LL_init_24 rfl (lv_at hl 0 rfl) ?_
  refine lv_iconst (v := 0) C.1.1 C.1.2.1 d_LL_init_25 (by decide) ?_
  replace hf := Option.bind_eq_some_iff.mp hf
  obtain ⟨h12, e13, hf⟩ := hf
  refine hq_put C I F_LL_22 e13 rfl rfl d_LL_init_26 (fun H locs I => ?_)
  refine hq_aload_n C.1.1 C.1.2.1 d_LL_init_29 rfl (lv_at hl 0 rfl) ?_
  refine hq_new C I K_EL g75 g76 g38 (fs := [.null, .null, .null, .null, .int 0]) (fun j hj => born_EL j hj) (Nat.le_of_ble_eq_true rfl) (Nat.le_of_ble_eq_true rfl) d_LL_init_30 (fun H I => ?_)
  refine W.widen (k := 4) (n := 68) (by decide) (by decide) ?_
  replace hf := Option.bind_eq_some_iff.mp hf
  obtain ⟨h16, e15, hf⟩ := hf
  rw [Option.some.inj e15] at I
  refine lv_dup C.1.1 C.1.2.1 d_LL_init_33 (hq_cat _) ?_
  replace hf := Option.bind_eq_some_iff.mp hf
  obtain ⟨q17, e18, hf⟩ := hf
  refine hq_callIN gt_good C I hl.1 (k_EL_init l G B _ h12.2 q17 e18) M_LL_28 ⟨rfl, rfl⟩ ⟨Nat.le_of_ble_eq_true rfl, Nat.le_of_ble_eq_true rfl⟩ rfl (by simp [hq_cat, hq_catI, hq_catL]) d_LL_init_34 ⟨Nat.le_of_ble_eq_true rfl, Nat.le_of_ble_eq_true rfl⟩ (fun H locs I => ?_)
  refine W.widen (k := 8) (n := 148) (by decide) (by decide) ?_
  replace hf := Option.bind_eq_some_iff.mp hf
  obtain ⟨h19, e20, hf⟩ := hf
  refine hq_put C I F_LL_29 e20 (hq_rff _ _).1 (hq_rff _ _).2 d_LL_init_37 (fun H locs I => ?_)
  refine hq_aload_n C.1.1 C.1.2.1 d_LL_init_40 rfl (lv_at hl 0 rfl) ?_
  refine hq_new C I K_EL g75 g76 g38 (fs := [.null, .null, .null, .null, .int 0]) (fun j hj => born_EL j hj) (Nat.le_of_ble_eq_true rfl) (Nat.le_of_ble_eq_true rfl) d_LL_init_41 (fun H I => ?_)
  refine W.widen (k := 9) (n := 153) (by decide) (by decide) ?_
  replace hf := Option.bind_eq_some_iff.mp hf
  obtain ⟨h23, e22, hf⟩ := hf
  rw [Option.some.inj e22] at I
  refine lv_dup C.1.1 C.1.2.1 d_LL_init_44 (hq_cat _) ?_
  replace hf := Option.bind_eq_some_iff.mp hf
  obtain ⟨q24, e25, hf⟩ := hf
  refine hq_callIN gt_good C I hl.1 (k_EL_init l G B _ h19.2 q24 e25) M_LL_28 ⟨rfl, rfl⟩ ⟨Nat.le_of_ble_eq_true rfl, Nat.le_of_ble_eq_true rfl⟩ rfl (by simp [hq_cat, hq_catI, hq_catL]) d_LL_init_45 ⟨Nat.le_of_ble_eq_true rfl, Nat.le_of_ble_eq_true rfl⟩ (fun H locs I => ?_)
  refine W.widen (k := 13) (n := 233) (by decide) (by decide) ?_
  replace hf := Option.bind_eq_some_iff.mp hf
  obtain ⟨h26, e27, hf⟩ := hf
  refine hq_put C I F_LL_33 e27 (hq_rff _ _).1 (hq_rff _ _).2 d_LL_init_48 (fun H locs I => ?_)
  refine hq_aload_n C.1.1 C.1.2.1 d_LL_init_51 rfl (lv_at hl 0 rfl) ?_
  refine lv_iconst (v := -1) C.1.1 C.1.2.1 d_LL_init_52 (by decide) ?_
  replace hf := Option.bind_eq_some_iff.mp hf
  obtain ⟨h28, e29, hf⟩ := hf
  refine hq_put C I F_LL_36 e29 rfl rfl d_LL_init_53 (fun H locs I => ?_)
  cases hf
  exact hq_vret C I (by decide) (by decide) d_LL_init_56
set_option maxRecDepth 100000 in
set_option maxHeartbeats 4000000 in
theorem k_LN_append (l : Launch) (G : hp_G) (B : Nat) (h : hp_H) (t0 : Nat) (p1 : Int32) (out : hp_H) (hf : f_LN_append h t0 p1 = some out) : Met l y_LN_append (.code y_LN_append b_LN_append 2 ((Option.none : Option Jvm.ClassFile.FieldType)) :: gt) ({ frames := 0, cells := 0, slots := 0, locals := 0 }) (hq_Pc G vwCl aTs B h [.ref t0, .int p1]) (hq_Q G vwCl B none out) 0 0 (fun q => B ≤ q) := by
  refine hq_enter (nL := 2) (by decide +kernel) (Nat.le_of_ble_eq_true rfl) ?_
  intro p e s m args below meth c C I ls hl
  have hl : lv_has ls 2 [(0, va_rf (some t0)), (1, .int p1)] := hl
  unfold f_LN_append at hf
  refine hq_aload_n C.1.1 C.1.2.1 d_LN_append_0 rfl (lv_at hl 0 rfl) ?_
  replace hf := Option.bind_eq_some_iff.mp hf
  obtain ⟨x1, e2, hf⟩ := hf
  refine hq_getI C I F_LN_15 e2 d_LN_append_1 ?_
  refine lv_bipush (v := 40) C.1.1 C.1.2.1 d_LN_append_4 (by decide) ?_
  refine lv_icmp_ge (tgt := 29) C.1.1 C.1.2.1 d_LN_append_6 (by decide) (fun c3 => ?_) (fun c3 => ?_)
  · rw [if_pos c3] at hf
    cases hf
    exact hq_vret C I (by decide) (by decide) d_LN_append_29
  · rw [if_neg c3] at hf
    refine hq_aload_n C.1.1 C.1.2.1 d_LN_append_9 rfl (lv_at hl 0 rfl) ?_
    replace hf := Option.bind_eq_some_iff.mp hf
    obtain ⟨x4, e5, hf⟩ := hf
    refine hq_getR C I F_LN_9 e5 d_LN_append_10 ?_
    refine hq_aload_n C.1.1 C.1.2.1 d_LN_append_13 rfl (lv_at hl 0 rfl) ?_
    replace hf := Option.bind_eq_some_iff.mp hf
    obtain ⟨x6, e7, hf⟩ := hf
    refine hq_getI C I F_LN_15 e7 d_LN_append_14 ?_
    refine lv_iload_n C.1.1 C.1.2.1 d_LN_append_17 rfl (lv_at hl 1 rfl) ?_
    replace hf := Option.bind_eq_some_iff.mp hf
    obtain ⟨h8, e9, hf⟩ := hf
    refine hq_cast C I (t := 2) rfl e9 d_LN_append_18 (fun H locs I => ?_)
    refine hq_aload_n C.1.1 C.1.2.1 d_LN_append_19 rfl (lv_at hl 0 rfl) ?_
    refine lv_dup C.1.1 C.1.2.1 d_LN_append_20 (hq_cat _) ?_
    replace hf := Option.bind_eq_some_iff.mp hf
    obtain ⟨x10, e11, hf⟩ := hf
    refine hq_getI C I F_LN_15 e11 d_LN_append_21 ?_
    refine lv_iconst (v := 1) C.1.1 C.1.2.1 d_LN_append_24 (by decide) ?_
    refine lv_iadd C.1.1 C.1.2.1 d_LN_append_25 ?_
    replace hf := Option.bind_eq_some_iff.mp hf
    obtain ⟨h12, e13, hf⟩ := hf
    refine hq_put C I F_LN_15 e13 rfl rfl d_LN_append_26 (fun H locs I => ?_)
    cases hf
    exact hq_vret C I (by decide) (by decide) d_LN_append_29
set_option maxRecDepth 100000 in
set_option maxHeartbeats 4000000 in
theorem k_LL_type (l : Launch) (G : hp_G) (B : Nat) (h : hp_H) (t0 : Nat) (p1 : Int32) (out : Int32 × hp_H) (hf : f_LL_type h t0 p1 = some out) : Met l y_LL_type (.code y_LL_type b_LL_type 2 ((Option.some Jvm.ClassFile.FieldType.int)) :: gt) ({ frames := 1, cells := 0, slots := 0, locals := 21 }) (hq_Pc G vwCl aTs B h [.ref t0, .int p1]) (hq_Q G vwCl B (some (.int out.1)) out.2) 0 0 (fun q => B ≤ q) := by
  refine hq_enter (nL := 2) (by decide +kernel) (Nat.le_of_ble_eq_true rfl) ?_
  intro p e s m args below meth c C I ls hl
  have hl : lv_has ls 2 [(0, va_rf (some t0)), (1, .int p1)] := hl
  unfold f_LL_type at hf
  refine lv_iload_n C.1.1 C.1.2.1 d_LL_type_0 rfl (lv_at hl 1 rfl) ?_
  refine lv_if_lt (tgt := 11) C.1.1 C.1.2.1 d_LL_type_1 (by decide) (fun c1 => ?_) (fun c1 => ?_)
  · rw [if_pos c1] at hf
    refine lv_iconst (v := -1) C.1.1 C.1.2.1 d_LL_type_11 (by decide) ?_
    cases hf
    exact hq_iret C I (by decide) (by decide) d_LL_type_12
  · rw [if_neg c1] at hf
    refine lv_iload_n C.1.1 C.1.2.1 d_LL_type_4 rfl (lv_at hl 1 rfl) ?_
    refine lv_sipush (v := 255) C.1.1 C.1.2.1 d_LL_type_5 (by decide) ?_
    refine lv_icmp_le (tgt := 13) C.1.1 C.1.2.1 d_LL_type_8 (by decide) (fun c2 => ?_) (fun c2 => ?_)
    · rw [if_pos c2] at hf
      refine hq_aload_n C.1.1 C.1.2.1 d_LL_type_13 rfl (lv_at hl 0 rfl) ?_
      replace hf := Option.bind_eq_some_iff.mp hf
      obtain ⟨x3, e4, hf⟩ := hf
      refine hq_getR C I F_LL_10 e4 d_LL_type_14 ?_
      replace hf := Option.bind_eq_some_iff.mp hf
      obtain ⟨x5, e6, hf⟩ := hf
      refine hq_getI C I F_LL_39 e6 d_LL_type_17 ?_
      refine lv_bipush (v := 40) C.1.1 C.1.2.1 d_LL_type_20 (by decide) ?_
      refine lv_icmp_ne (tgt := 28) C.1.1 C.1.2.1 d_LL_type_22 (by decide) (fun c7 => ?_) (fun c7 => ?_)
      · rw [if_neg c7] at hf
        refine hq_aload_n C.1.1 C.1.2.1 d_LL_type_28 rfl (lv_at hl 0 rfl) ?_
        replace hf := Option.bind_eq_some_iff.mp hf
        obtain ⟨x8, e9, hf⟩ := hf
        refine hq_getR C I F_LL_10 e9 d_LL_type_29 ?_
        refine lv_iload_n C.1.1 C.1.2.1 d_LL_type_32 rfl (lv_at hl 1 rfl) ?_
        refine lv_i2c (v := ((p1.toUInt32 % 65536).toInt32)) C.1.1 C.1.2.1 d_LL_type_33 rfl ?_
        replace hf := Option.bind_eq_some_iff.mp hf
        obtain ⟨b12, e13, hf⟩ := hf
        obtain ⟨e13r, _, e13c⟩ := hp_o_inv e13
        replace hf := Option.bind_eq_some_iff.mp hf
        obtain ⟨q10, e11, hf⟩ := hf
        refine hq_callW gt_good C I hl.1 (k_LN_append l G B _ b12 ((p1.toUInt32 % 65536).toInt32) q10 e11) M_LL_42 e13c e13r ⟨rfl, rfl⟩ ⟨Nat.le_of_ble_eq_true rfl, Nat.le_of_ble_eq_true rfl⟩ rfl (Nat.le_of_ble_eq_true rfl) d_LL_type_34 ⟨Nat.le_of_ble_eq_true rfl, Nat.le_of_ble_eq_true rfl⟩ (fun H locs I => ?_)
        refine W.widen (k := 0) (n := 0) (by decide) (by decide) ?_
        refine hq_aload_n C.1.1 C.1.2.1 d_LL_type_37 rfl (lv_at hl 0 rfl) ?_
        replace hf := Option.bind_eq_some_iff.mp hf
        obtain ⟨x14, e15, hf⟩ := hf
        refine hq_getR C I F_LL_10 e15 d_LL_type_38 ?_
        replace hf := Option.bind_eq_some_iff.mp hf
        obtain ⟨x16, e17, hf⟩ := hf
        refine hq_getI C I F_LL_39 e17 d_LL_type_41 ?_
        cases hf
        exact hq_iret C I (by decide) (by decide) d_LL_type_44
      · rw [if_pos c7] at hf
        refine lv_bipush (v := -2) C.1.1 C.1.2.1 d_LL_type_25 (by decide) ?_
        cases hf
        exact hq_iret C I (by decide) (by decide) d_LL_type_27
    · rw [if_neg c2] at hf
      refine lv_iconst (v := -1) C.1.1 C.1.2.1 d_LL_type_11 (by decide) ?_
      cases hf
      exact hq_iret C I (by decide) (by decide) d_LL_type_12
set_option maxRecDepth 100000 in
set_option maxHeartbeats 4000000 in
theorem k_LN_clear (l : Launch) (G : hp_G) (B : Nat) (h : hp_H) (t0 : Nat) (out : hp_H) (hf : f_LN_clear h t0 = some out) : Met l y_LN_clear (.code y_LN_clear b_LN_clear 1 ((Option.none : Option Jvm.ClassFile.FieldType)) :: gt) ({ frames := 0, cells := 0, slots := 0, locals := 0 }) (hq_Pc G vwCl aTs B h [.ref t0]) (hq_Q G vwCl B none out) 0 0 (fun q => B ≤ q) := by
  refine hq_enter (nL := 1) (by decide +kernel) (Nat.le_of_ble_eq_true rfl) ?_
  intro p e s m args below meth c C I ls hl
  have hl : lv_has ls 1 [(0, va_rf (some t0))] := hl
  unfold f_LN_clear at hf
  refine hq_aload_n C.1.1 C.1.2.1 d_LN_clear_0 rfl (lv_at hl 0 rfl) ?_
  refine lv_iconst (v := 0) C.1.1 C.1.2.1 d_LN_clear_1 (by decide) ?_
  replace hf := Option.bind_eq_some_iff.mp hf
  obtain ⟨h1, e2, hf⟩ := hf
  refine hq_put C I F_LN_15 e2 rfl rfl d_LN_clear_2 (fun H locs I => ?_)
  refine hq_aload_n C.1.1 C.1.2.1 d_LN_clear_5 rfl (lv_at hl 0 rfl) ?_
  refine lv_iconst (v := 0) C.1.1 C.1.2.1 d_LN_clear_6 (by decide) ?_
  replace hf := Option.bind_eq_some_iff.mp hf
  obtain ⟨h3, e4, hf⟩ := hf
  refine hq_put C I F_LN_19 e4 rfl rfl d_LN_clear_7 (fun H locs I => ?_)
  cases hf
  exact hq_vret C I (by decide) (by decide) d_LN_clear_10
set_option maxRecDepth 100000 in
set_option maxHeartbeats 4000000 in
theorem k_LL_wipe (l : Launch) (G : hp_G) (B : Nat) (h : hp_H) (t0 : Nat) (out : Int32 × hp_H) (hf : f_LL_wipe h t0 = some out) : Met l y_LL_wipe (.code y_LL_wipe b_LL_wipe 2 ((Option.some Jvm.ClassFile.FieldType.int)) :: gt) ({ frames := 1, cells := 0, slots := 0, locals := 20 }) (hq_Pc G vwCl aTs B h [.ref t0]) (hq_Q G vwCl B (some (.int out.1)) out.2) 0 0 (fun q => B ≤ q) := by
  refine hq_enter (nL := 2) (by decide +kernel) (Nat.le_of_ble_eq_true rfl) ?_
  intro p e s m args below meth c C I ls hl
  have hl : lv_has ls 2 [(0, va_rf (some t0))] := hl
  unfold f_LL_wipe at hf
  refine hq_aload_n C.1.1 C.1.2.1 d_LL_wipe_0 rfl (lv_at hl 0 rfl) ?_
  replace hf := Option.bind_eq_some_iff.mp hf
  obtain ⟨x1, e2, hf⟩ := hf
  refine hq_getR C I F_LL_10 e2 d_LL_wipe_1 ?_
  replace hf := Option.bind_eq_some_iff.mp hf
  obtain ⟨x3, e4, hf⟩ := hf
  refine hq_getI C I F_LL_39 e4 d_LL_wipe_4 ?_
  refine lv_istore_n (i := 1) (lv' := [(1, .int x3), (0, va_rf (some t0))]) C.1.1 C.1.2.1 d_LL_wipe_7 rfl hl (by decide) (by first | rfl | simp [hq_cat, hq_catI, hq_catL]) (fun ls hl => ?_)
  refine hq_aload_n C.1.1 C.1.2.1 d_LL_wipe_8 rfl (lv_at hl 1 rfl) ?_
  replace hf := Option.bind_eq_some_iff.mp hf
  obtain ⟨x5, e6, hf⟩ := hf
  refine hq_getR C I F_LL_10 e6 d_LL_wipe_9 ?_
  replace hf := Option.bind_eq_some_iff.mp hf
  obtain ⟨b9, e10, hf⟩ := hf
  obtain ⟨e10r, _, e10c⟩ := hp_o_inv e10
  replace hf := Option.bind_eq_some_iff.mp hf
  obtain ⟨q7, e8, hf⟩ := hf
  refine hq_callW gt_good C I hl.1 (k_LN_clear l G B _ b9 q7 e8) M_LL_46 e10c e10r ⟨rfl, rfl⟩ ⟨Nat.le_of_ble_eq_true rfl, Nat.le_of_ble_eq_true rfl⟩ rfl (Nat.le_of_ble_eq_true rfl) d_LL_wipe_12 ⟨Nat.le_of_ble_eq_true rfl, Nat.le_of_ble_eq_true rfl⟩ (fun H locs I => ?_)
  refine W.widen (k := 0) (n := 0) (by decide) (by decide) ?_
  refine lv_iload_n C.1.1 C.1.2.1 d_LL_wipe_15 rfl (lv_at hl 0 rfl) ?_
  cases hf
  exact hq_iret C I (by decide) (by decide) d_LL_wipe_16
set_option maxRecDepth 100000 in
set_option maxHeartbeats 4000000 in
theorem k_JM_min (l : Launch) (G : hp_G) (B : Nat) (h : hp_H) (p0 : Int32) (p1 : Int32) (out : Int32 × hp_H) (hf : f_JM_min h p0 p1 = some out) : Met l y_JM_min (.code y_JM_min b_JM_min 2 ((Option.some Jvm.ClassFile.FieldType.int)) :: gt) ({ frames := 0, cells := 0, slots := 0, locals := 0 }) (hq_Pc G vwCl aTs B h [.int p0, .int p1]) (hq_Q G vwCl B (some (.int out.1)) out.2) 0 0 (fun q => B ≤ q) := by
  refine hq_enterF (nL := 2) (by decide +kernel) (Nat.le_of_ble_eq_true rfl) ?_
  intro p e s m args below meth c C I ls hl
  have hl : lv_has ls 2 [(0, .int p0), (1, .int p1)] := hl
  unfold f_JM_min at hf
  refine lv_iload_n C.1.1 C.1.2.1 d_JM_min_0 rfl (lv_at hl 0 rfl) ?_
  refine lv_iload_n C.1.1 C.1.2.1 d_JM_min_1 rfl (lv_at hl 1 rfl) ?_
  refine lv_icmp_gt (tgt := 9) C.1.1 C.1.2.1 d_JM_min_2 (by decide) (fun c1 => ?_) (fun c1 => ?_)
  · rw [if_pos c1] at hf
    refine lv_iload_n C.1.1 C.1.2.1 d_JM_min_9 rfl (lv_at hl 1 rfl) ?_
    cases hf
    exact hq_iret C I (by decide) (by decide) d_JM_min_10
  · rw [if_neg c1] at hf
    refine lv_iload_n C.1.1 C.1.2.1 d_JM_min_5 rfl (lv_at hl 0 rfl) ?_
    refine lv_goto (tgt := 10) C.1.1 C.1.2.1 d_JM_min_6 (by decide) ?_
    cases hf
    exact hq_iret C I (by decide) (by decide) d_JM_min_10
set_option maxRecDepth 100000 in
set_option maxHeartbeats 4000000 in
theorem k_LL_isLetter (l : Launch) (G : hp_G) (B : Nat) (h : hp_H) (p0 : Int32) (out : Int32 × hp_H) (hf : f_LL_isLetter h p0 = some out) : Met l y_LL_isLetter (.code y_LL_isLetter b_LL_isLetter 1 ((Option.some Jvm.ClassFile.FieldType.boolean)) :: gt) ({ frames := 0, cells := 0, slots := 0, locals := 0 }) (hq_Pc G vwCl aTs B h [.int p0]) (hq_Q G vwCl B (some (.int out.1)) out.2) 0 0 (fun q => B ≤ q) := by
  refine hq_enter (nL := 1) (by decide +kernel) (Nat.le_of_ble_eq_true rfl) ?_
  intro p e s m args below meth c C I ls hl
  have hl : lv_has ls 1 [(0, .int p0)] := hl
  unfold f_LL_isLetter at hf
  refine lv_iload_n C.1.1 C.1.2.1 d_LL_isLetter_0 rfl (lv_at hl 0 rfl) ?_
  refine lv_bipush (v := 97) C.1.1 C.1.2.1 d_LL_isLetter_1 (by decide) ?_
  refine lv_icmp_lt (tgt := 16) C.1.1 C.1.2.1 d_LL_isLetter_3 (by decide) (fun c1 => ?_) (fun c1 => ?_)
  · rw [if_pos c1] at hf
    refine lv_iconst (v := 0) C.1.1 C.1.2.1 d_LL_isLetter_16 (by decide) ?_
    cases hf
    exact hq_zret C I (hp_z_nar (x := 0) (Or.inl rfl)).1 (by decide) (by decide) d_LL_isLetter_17
  · rw [if_neg c1] at hf
    refine lv_iload_n C.1.1 C.1.2.1 d_LL_isLetter_6 rfl (lv_at hl 0 rfl) ?_
    refine lv_bipush (v := 122) C.1.1 C.1.2.1 d_LL_isLetter_7 (by decide) ?_
    refine lv_icmp_gt (tgt := 16) C.1.1 C.1.2.1 d_LL_isLetter_9 (by decide) (fun c2 => ?_) (fun c2 => ?_)
    · rw [if_pos c2] at hf
      refine lv_iconst (v := 0) C.1.1 C.1.2.1 d_LL_isLetter_16 (by decide) ?_
      cases hf
      exact hq_zret C I (hp_z_nar (x := 0) (Or.inl rfl)).1 (by decide) (by decide) d_LL_isLetter_17
    · rw [if_neg c2] at hf
      refine lv_iconst (v := 1) C.1.1 C.1.2.1 d_LL_isLetter_12 (by decide) ?_
      refine lv_goto (tgt := 17) C.1.1 C.1.2.1 d_LL_isLetter_13 (by decide) ?_
      cases hf
      exact hq_zret C I (hp_z_nar (x := 1) (Or.inr rfl)).1 (by decide) (by decide) d_LL_isLetter_17
set_option maxRecDepth 100000 in
set_option maxHeartbeats 4000000 in
theorem k_LL_letterNumber (l : Launch) (G : hp_G) (B : Nat) (h : hp_H) (p0 : Int32) (out : Int32 × hp_H) (hf : f_LL_letterNumber h p0 = some out) : Met l y_LL_letterNumber (.code y_LL_letterNumber b_LL_letterNumber 1 ((Option.some Jvm.ClassFile.FieldType.int)) :: gt) ({ frames := 0, cells := 0, slots := 0, locals := 0 }) (hq_Pc G vwCl aTs B h [.int p0]) (hq_Q G vwCl B (some (.int out.1)) out.2) 0 0 (fun q => B ≤ q) := by
  refine hq_enter (nL := 1) (by decide +kernel) (Nat.le_of_ble_eq_true rfl) ?_
  intro p e s m args below meth c C I ls hl
  have hl : lv_has ls 1 [(0, .int p0)] := hl
  unfold f_LL_letterNumber at hf
  refine lv_iload_n C.1.1 C.1.2.1 d_LL_letterNumber_0 rfl (lv_at hl 0 rfl) ?_
  refine lv_bipush (v := 97) C.1.1 C.1.2.1 d_LL_letterNumber_1 (by decide) ?_
  refine lv_isub C.1.1 C.1.2.1 d_LL_letterNumber_3 ?_
  refine lv_iconst (v := 1) C.1.1 C.1.2.1 d_LL_letterNumber_4 (by decide) ?_
  refine lv_iadd C.1.1 C.1.2.1 d_LL_letterNumber_5 ?_
  cases hf
  exact hq_iret C I (by decide) (by decide) d_LL_letterNumber_6
set_option maxRecDepth 100000 in
set_option maxHeartbeats 4000000 in
theorem k_LN_takeName_L17 {p : Program} {l : Launch} {e : Env} {s : State} {m : MethodId} {args : Array Value} {below : List Frame} {meth : Method} {c : Code} {G : hp_G} {B : Nat} (C : hq_C p s m args meth c b_LN_takeName 4 ((Option.some Jvm.ClassFile.FieldType.long)) "LayeredLauncher$Line" "takeName" gt G vwCl aTs) : ∀ (n : Nat) (t0 : Nat) (y1 : Int64) (y3 : Int32) (h : hp_H) (out : Int64 × hp_H), f_LN_takeName_L17 n t0 y1 y3 h = some out → ∀ (H : Heap) (locs : List Loc), hp_I G vwCl B s.heap h H locs → ∀ ls : Array Slot, lv_has ls 4 [(0, va_rf (some t0)), (1, .long y1), (3, .int y3)] → W p l e ({ frames := 1, cells := 0, slots := 0, locals := 21 }) s m args below meth c H locs 0 0 (MQ below (hq_Q G vwCl B (some (.long out.1)) out.2) args s 0 0 (fun q => B ≤ q)) (F0 m 17 ls []) := by
  intro n
  induction n with
  | zero => intro t0 y1 y3 h out hf; simp [f_LN_takeName_L17] at hf
  | succ n ih =>
    intro t0 y1 y3 h out hf H locs I ls hl
    simp only [f_LN_takeName_L17] at hf
    refine hq_aload_n C.1.1 C.1.2.1 d_LN_takeName_17 rfl (lv_at hl 0 rfl) ?_
    replace hf := Option.bind_eq_some_iff.mp hf
    obtain ⟨x7, e8, hf⟩ := hf
    refine hq_getI C I F_LN_19 e8 d_LN_takeName_18 ?_
    refine lv_iload_n C.1.1 C.1.2.1 d_LN_takeName_21 rfl (lv_at hl 2 rfl) ?_
    refine lv_icmp_ge (tgt := 73) C.1.1 C.1.2.1 d_LN_takeName_22 (by decide) (fun c9 => ?_) (fun c9 => ?_)
    · rw [if_pos c9] at hf
      refine lv_lload_n C.1.1 C.1.2.1 d_LN_takeName_73 rfl (lv_at hl 1 rfl) ?_
      cases hf
      exact hq_lret C I (by decide) (by decide) d_LN_takeName_74
    · rw [if_neg c9] at hf
      refine hq_aload_n C.1.1 C.1.2.1 d_LN_takeName_25 rfl (lv_at hl 0 rfl) ?_
      replace hf := Option.bind_eq_some_iff.mp hf
      obtain ⟨x10, e11, hf⟩ := hf
      refine hq_getR C I F_LN_9 e11 d_LN_takeName_26 ?_
      refine hq_aload_n C.1.1 C.1.2.1 d_LN_takeName_29 rfl (lv_at hl 0 rfl) ?_
      replace hf := Option.bind_eq_some_iff.mp hf
      obtain ⟨x12, e13, hf⟩ := hf
      refine hq_getI C I F_LN_19 e13 d_LN_takeName_30 ?_
      replace hf := Option.bind_eq_some_iff.mp hf
      obtain ⟨x14, e15, hf⟩ := hf
      refine hq_cald C I (t := 2) rfl e15 d_LN_takeName_33 ?_
      replace hf := Option.bind_eq_some_iff.mp hf
      obtain ⟨q16, e17, hf⟩ := hf
      refine hq_callSN gt_good C I hl.1 (k_LL_isLetter l G B _ x14 q16 e17) M_LN_41 ⟨rfl, rfl⟩ ⟨Nat.le_of_ble_eq_true rfl, Nat.le_of_ble_eq_true rfl⟩ rfl (Nat.le_of_ble_eq_true rfl) d_LN_takeName_34 ⟨Nat.le_of_ble_eq_true rfl, Nat.le_of_ble_eq_true rfl⟩ (fun H locs I => ?_)
      refine W.widen (k := 0) (n := 0) (by decide) (by decide) ?_
      refine lv_if_eq (tgt := 73) C.1.1 C.1.2.1 d_LN_takeName_37 (by decide) (fun c18 => ?_) (fun c18 => ?_)
      · rw [if_pos c18] at hf
        refine lv_lload_n C.1.1 C.1.2.1 d_LN_takeName_73 rfl (lv_at hl 1 rfl) ?_
        cases hf
        exact hq_lret C I (by decide) (by decide) d_LN_takeName_74
      · rw [if_neg c18] at hf
        refine lv_lload_n C.1.1 C.1.2.1 d_LN_takeName_40 rfl (lv_at hl 1 rfl) ?_
        refine lv_ldc2 C.1.1 C.1.2.1 C.1.2.2.2.1 (C.1.2.2.2.2 (.constantLong "LayeredLauncher$Line" 44 (27)) g158) d_LN_takeName_41 ?_
        refine lv_lmul C.1.1 C.1.2.1 d_LN_takeName_44 ?_
        refine hq_aload_n C.1.1 C.1.2.1 d_LN_takeName_45 rfl (lv_at hl 0 rfl) ?_
        replace hf := Option.bind_eq_some_iff.mp hf
        obtain ⟨x19, e20, hf⟩ := hf
        refine hq_getR C I F_LN_9 e20 d_LN_takeName_46 ?_
        refine hq_aload_n C.1.1 C.1.2.1 d_LN_takeName_49 rfl (lv_at hl 0 rfl) ?_
        replace hf := Option.bind_eq_some_iff.mp hf
        obtain ⟨x21, e22, hf⟩ := hf
        refine hq_getI C I F_LN_19 e22 d_LN_takeName_50 ?_
        replace hf := Option.bind_eq_some_iff.mp hf
        obtain ⟨x23, e24, hf⟩ := hf
        refine hq_cald C I (t := 2) rfl e24 d_LN_takeName_53 ?_
        replace hf := Option.bind_eq_some_iff.mp hf
        obtain ⟨q25, e26, hf⟩ := hf
        refine hq_callSN gt_good C I hl.1 (k_LL_letterNumber l G B _ x23 q25 e26) M_LN_46 ⟨rfl, rfl⟩ ⟨Nat.le_of_ble_eq_true rfl, Nat.le_of_ble_eq_true rfl⟩ rfl (Nat.le_of_ble_eq_true rfl) d_LN_takeName_54 ⟨Nat.le_of_ble_eq_true rfl, Nat.le_of_ble_eq_true rfl⟩ (fun H locs I => ?_)
        refine W.widen (k := 0) (n := 0) (by decide) (by decide) ?_
        refine lv_i2l (v := (q25.1.toInt64)) C.1.1 C.1.2.1 d_LN_takeName_57 rfl ?_
        refine lv_ladd C.1.1 C.1.2.1 d_LN_takeName_58 ?_
        refine lv_lstore_n (i := 1) (lv' := [(1, .long ((y1 * (27 : Int64)) + (q25.1.toInt64))), (0, va_rf (some t0)), (3, .int y3)]) C.1.1 C.1.2.1 d_LN_takeName_59 rfl hl (by decide) (by first | rfl | simp [hq_cat, hq_catI, hq_catL]) (fun ls hl => ?_)
        refine hq_aload_n C.1.1 C.1.2.1 d_LN_takeName_60 rfl (lv_at hl 1 rfl) ?_
        refine lv_dup C.1.1 C.1.2.1 d_LN_takeName_61 (hq_cat _) ?_
        replace hf := Option.bind_eq_some_iff.mp hf
        obtain ⟨x27, e28, hf⟩ := hf
        refine hq_getI C I F_LN_19 e28 d_LN_takeName_62 ?_
        refine lv_iconst (v := 1) C.1.1 C.1.2.1 d_LN_takeName_65 (by decide) ?_
        refine lv_iadd C.1.1 C.1.2.1 d_LN_takeName_66 ?_
        replace hf := Option.bind_eq_some_iff.mp hf
        obtain ⟨h29, e30, hf⟩ := hf
        refine hq_put C I F_LN_19 e30 rfl rfl d_LN_takeName_67 (fun H locs I => ?_)
        refine lv_goto (tgt := 17) C.1.1 C.1.2.1 d_LN_takeName_70 (by decide) ?_
        refine W.widen (k := 0) (n := 0) (by decide) (by decide) ?_
        exact ih t0 ((y1 * (27 : Int64)) + (q25.1.toInt64)) y3 h29 _ hf _ _ I ls (lv_sub hl [1, 0, 2] rfl)
set_option maxRecDepth 100000 in
set_option maxHeartbeats 4000000 in
theorem k_LN_takeName (l : Launch) (G : hp_G) (B : Nat) (h : hp_H) (t0 : Nat) (out : Int64 × hp_H) (hf : f_LN_takeName h t0 = some out) : Met l y_LN_takeName (.code y_LN_takeName b_LN_takeName 4 ((Option.some Jvm.ClassFile.FieldType.long)) :: gt) ({ frames := 1, cells := 0, slots := 0, locals := 21 }) (hq_Pc G vwCl aTs B h [.ref t0]) (hq_Q G vwCl B (some (.long out.1)) out.2) 0 0 (fun q => B ≤ q) := by
  refine hq_enter (nL := 4) (by decide +kernel) (Nat.le_of_ble_eq_true rfl) ?_
  intro p e s m args below meth c C I ls hl
  have hl : lv_has ls 4 [(0, va_rf (some t0))] := hl
  unfold f_LN_takeName at hf
  refine lv_lconst (v := 0) C.1.1 C.1.2.1 d_LN_takeName_0 (by decide) ?_
  refine lv_lstore_n (i := 1) (lv' := [(1, .long (0 : Int64)), (0, va_rf (some t0))]) C.1.1 C.1.2.1 d_LN_takeName_1 rfl hl (by decide) (by first | rfl | simp [hq_cat, hq_catI, hq_catL]) (fun ls hl => ?_)
  refine hq_aload_n C.1.1 C.1.2.1 d_LN_takeName_2 rfl (lv_at hl 1 rfl) ?_
  replace hf := Option.bind_eq_some_iff.mp hf
  obtain ⟨x1, e2, hf⟩ := hf
  refine hq_getI C I F_LN_15 e2 d_LN_takeName_3 ?_
  refine hq_aload_n C.1.1 C.1.2.1 d_LN_takeName_6 rfl (lv_at hl 1 rfl) ?_
  replace hf := Option.bind_eq_some_iff.mp hf
  obtain ⟨x3, e4, hf⟩ := hf
  refine hq_getI C I F_LN_19 e4 d_LN_takeName_7 ?_
  refine lv_bipush (v := 8) C.1.1 C.1.2.1 d_LN_takeName_10 (by decide) ?_
  refine lv_iadd C.1.1 C.1.2.1 d_LN_takeName_12 ?_
  replace hf := Option.bind_eq_some_iff.mp hf
  obtain ⟨q5, e6, hf⟩ := hf
  refine hq_callS gt_good C I hl.1 (k_JM_min l G B _ x1 (x3 + (8 : Int32)) q5 e6) M_LN_35 ⟨rfl, rfl⟩ ⟨Nat.le_of_ble_eq_true rfl, Nat.le_of_ble_eq_true rfl⟩ rfl (Nat.le_of_ble_eq_true rfl) d_LN_takeName_13 ⟨Nat.le_of_ble_eq_true rfl, Nat.le_of_ble_eq_true rfl⟩ (fun H locs I => ?_)
  refine W.widen (k := 0) (n := 0) (by decide) (by decide) ?_
  refine lv_istore_n (i := 3) (lv' := [(3, .int q5.1), (1, .long (0 : Int64)), (0, va_rf (some t0))]) C.1.1 C.1.2.1 d_LN_takeName_16 rfl hl (by decide) (by first | rfl | simp [hq_cat, hq_catI, hq_catL]) (fun ls hl => ?_)
  refine W.widen (k := 0) (n := 0) (by decide) (by decide) ?_
  exact k_LN_takeName_L17 C FU t0 (0 : Int64) q5.1 q5.2 _ hf _ _ I ls (lv_sub hl [2, 1, 0] rfl)
set_option maxRecDepth 100000 in
set_option maxHeartbeats 4000000 in
theorem k_LN_standsAt (l : Launch) (G : hp_G) (B : Nat) (h : hp_H) (t0 : Nat) (p1 : Int32) (out : Int32 × hp_H) (hf : f_LN_standsAt h t0 p1 = some out) : Met l y_LN_standsAt (.code y_LN_standsAt b_LN_standsAt 2 ((Option.some Jvm.ClassFile.FieldType.boolean)) :: gt) ({ frames := 0, cells := 0, slots := 0, locals := 0 }) (hq_Pc G vwCl aTs B h [.ref t0, .int p1]) (hq_Q G vwCl B (some (.int out.1)) out.2) 0 0 (fun q => B ≤ q) := by
  refine hq_enter (nL := 2) (by decide +kernel) (Nat.le_of_ble_eq_true rfl) ?_
  intro p e s m args below meth c C I ls hl
  have hl : lv_has ls 2 [(0, va_rf (some t0)), (1, .int p1)] := hl
  unfold f_LN_standsAt at hf
  refine hq_aload_n C.1.1 C.1.2.1 d_LN_standsAt_0 rfl (lv_at hl 0 rfl) ?_
  replace hf := Option.bind_eq_some_iff.mp hf
  obtain ⟨x1, e2, hf⟩ := hf
  refine hq_getI C I F_LN_19 e2 d_LN_standsAt_1 ?_
  refine hq_aload_n C.1.1 C.1.2.1 d_LN_standsAt_4 rfl (lv_at hl 0 rfl) ?_
  replace hf := Option.bind_eq_some_iff.mp hf
  obtain ⟨x3, e4, hf⟩ := hf
  refine hq_getI C I F_LN_15 e4 d_LN_standsAt_5 ?_
  refine lv_icmp_ge (tgt := 28) C.1.1 C.1.2.1 d_LN_standsAt_8 (by decide) (fun c5 => ?_) (fun c5 => ?_)
  · rw [if_pos c5] at hf
    refine lv_iconst (v := 0) C.1.1 C.1.2.1 d_LN_standsAt_28 (by decide) ?_
    cases hf
    exact hq_zret C I (hp_z_nar (x := 0) (Or.inl rfl)).1 (by decide) (by decide) d_LN_standsAt_29
  · rw [if_neg c5] at hf
    refine hq_aload_n C.1.1 C.1.2.1 d_LN_standsAt_11 rfl (lv_at hl 0 rfl) ?_
    replace hf := Option.bind_eq_some_iff.mp hf
    obtain ⟨x6, e7, hf⟩ := hf
    refine hq_getR C I F_LN_9 e7 d_LN_standsAt_12 ?_
    refine hq_aload_n C.1.1 C.1.2.1 d_LN_standsAt_15 rfl (lv_at hl 0 rfl) ?_
    replace hf := Option.bind_eq_some_iff.mp hf
    obtain ⟨x8, e9, hf⟩ := hf
    refine hq_getI C I F_LN_19 e9 d_LN_standsAt_16 ?_
    replace hf := Option.bind_eq_some_iff.mp hf
    obtain ⟨x10, e11, hf⟩ := hf
    refine hq_cald C I (t := 2) rfl e11 d_LN_standsAt_19 ?_
    refine lv_iload_n C.1.1 C.1.2.1 d_LN_standsAt_20 rfl (lv_at hl 1 rfl) ?_
    refine lv_icmp_ne (tgt := 28) C.1.1 C.1.2.1 d_LN_standsAt_21 (by decide) (fun c12 => ?_) (fun c12 => ?_)
    · rw [if_neg c12] at hf
      refine lv_iconst (v := 0) C.1.1 C.1.2.1 d_LN_standsAt_28 (by decide) ?_
      cases hf
      exact hq_zret C I (hp_z_nar (x := 0) (Or.inl rfl)).1 (by decide) (by decide) d_LN_standsAt_29
    · rw [if_pos c12] at hf
      refine lv_iconst (v := 1) C.1.1 C.1.2.1 d_LN_standsAt_24 (by decide) ?_
      refine lv_goto (tgt := 29) C.1.1 C.1.2.1 d_LN_standsAt_25 (by decide) ?_
      cases hf
      exact hq_zret C I (hp_z_nar (x := 1) (Or.inr rfl)).1 (by decide) (by decide) d_LN_standsAt_29
set_option maxRecDepth 100000 in
set_option maxHeartbeats 4000000 in
theorem k_LN_take (l : Launch) (G : hp_G) (B : Nat) (h : hp_H) (t0 : Nat) (p1 : Int32) (out : Int32 × hp_H) (hf : f_LN_take h t0 p1 = some out) : Met l y_LN_take (.code y_LN_take b_LN_take 2 ((Option.some Jvm.ClassFile.FieldType.boolean)) :: gt) ({ frames := 1, cells := 0, slots := 0, locals := 21 }) (hq_Pc G vwCl aTs B h [.ref t0, .int p1]) (hq_Q G vwCl B (some (.int out.1)) out.2) 0 0 (fun q => B ≤ q) := by
  refine hq_enter (nL := 2) (by decide +kernel) (Nat.le_of_ble_eq_true rfl) ?_
  intro p e s m args below meth c C I ls hl
  have hl : lv_has ls 2 [(0, va_rf (some t0)), (1, .int p1)] := hl
  unfold f_LN_take at hf
  refine hq_aload_n C.1.1 C.1.2.1 d_LN_take_0 rfl (lv_at hl 0 rfl) ?_
  refine lv_iload_n C.1.1 C.1.2.1 d_LN_take_1 rfl (lv_at hl 1 rfl) ?_
  replace hf := Option.bind_eq_some_iff.mp hf
  obtain ⟨b3, e4, hf⟩ := hf
  obtain ⟨e4r, _, e4c⟩ := hp_o_inv e4
  cases e4r
  replace hf := Option.bind_eq_some_iff.mp hf
  obtain ⟨q1, e2, hf⟩ := hf
  refine hq_callW gt_good C I hl.1 (k_LN_standsAt l G B _ t0 p1 q1 e2) M_LN_31 e4c rfl ⟨rfl, rfl⟩ ⟨Nat.le_of_ble_eq_true rfl, Nat.le_of_ble_eq_true rfl⟩ rfl (Nat.le_of_ble_eq_true rfl) d_LN_take_2 ⟨Nat.le_of_ble_eq_true rfl, Nat.le_of_ble_eq_true rfl⟩ (fun H locs I => ?_)
  refine W.widen (k := 0) (n := 0) (by decide) (by decide) ?_
  refine lv_if_ne (tgt := 10) C.1.1 C.1.2.1 d_LN_take_5 (by decide) (fun c5 => ?_) (fun c5 => ?_)
  · rw [if_neg c5] at hf
    refine hq_aload_n C.1.1 C.1.2.1 d_LN_take_10 rfl (lv_at hl 0 rfl) ?_
    refine lv_dup C.1.1 C.1.2.1 d_LN_take_11 (hq_cat _) ?_
    replace hf := Option.bind_eq_some_iff.mp hf
    obtain ⟨x6, e7, hf⟩ := hf
    refine hq_getI C I F_LN_19 e7 d_LN_take_12 ?_
    refine lv_iconst (v := 1) C.1.1 C.1.2.1 d_LN_take_15 (by decide) ?_
    refine lv_iadd C.1.1 C.1.2.1 d_LN_take_16 ?_
    replace hf := Option.bind_eq_some_iff.mp hf
    obtain ⟨h8, e9, hf⟩ := hf
    refine hq_put C I F_LN_19 e9 rfl rfl d_LN_take_17 (fun H locs I => ?_)
    refine lv_iconst (v := 1) C.1.1 C.1.2.1 d_LN_take_20 (by decide) ?_
    cases hf
    exact hq_zret C I (hp_z_nar (x := 1) (Or.inr rfl)).1 (by decide) (by decide) d_LN_take_21
  · rw [if_pos c5] at hf
    refine lv_iconst (v := 0) C.1.1 C.1.2.1 d_LN_take_8 (by decide) ?_
    cases hf
    exact hq_zret C I (hp_z_nar (x := 0) (Or.inl rfl)).1 (by decide) (by decide) d_LN_take_9
set_option maxRecDepth 100000 in
set_option maxHeartbeats 4000000 in
theorem k_LN_takeNameAndColon (l : Launch) (G : hp_G) (B : Nat) (h : hp_H) (t0 : Nat) (out : Int64 × hp_H) (hf : f_LN_takeNameAndColon h t0 = some out) : Met l y_LN_takeNameAndColon (.code y_LN_takeNameAndColon b_LN_takeNameAndColon 3 ((Option.some Jvm.ClassFile.FieldType.long)) :: gt) ({ frames := 2, cells := 0, slots := 0, locals := 44 }) (hq_Pc G vwCl aTs B h [.ref t0]) (hq_Q G vwCl B (some (.long out.1)) out.2) 0 0 (fun q => B ≤ q) := by
  refine hq_enter (nL := 3) (by decide +kernel) (Nat.le_of_ble_eq_true rfl) ?_
  intro p e s m args below meth c C I ls hl
  have hl : lv_has ls 3 [(0, va_rf (some t0))] := hl
  unfold f_LN_takeNameAndColon at hf
  refine hq_aload_n C.1.1 C.1.2.1 d_LN_takeNameAndColon_0 rfl (lv_at hl 0 rfl) ?_
  replace hf := Option.bind_eq_some_iff.mp hf
  obtain ⟨b3, e4, hf⟩ := hf
  obtain ⟨e4r, _, e4c⟩ := hp_o_inv e4
  cases e4r
  replace hf := Option.bind_eq_some_iff.mp hf
  obtain ⟨q1, e2, hf⟩ := hf
  refine hq_callW gt_good C I hl.1 (k_LN_takeName l G B _ t0 q1 e2) M_LN_50 e4c rfl ⟨rfl, rfl⟩ ⟨Nat.le_of_ble_eq_true rfl, Nat.le_of_ble_eq_true rfl⟩ rfl (Nat.le_of_ble_eq_true rfl) d_LN_takeNameAndColon_1 ⟨Nat.le_of_ble_eq_true rfl, Nat.le_of_ble_eq_true rfl⟩ (fun H locs I => ?_)
  refine W.widen (k := 0) (n := 0) (by decide) (by decide) ?_
  refine lv_lstore_n (i := 1) (lv' := [(1, .long q1.1), (0, va_rf (some t0))]) C.1.1 C.1.2.1 d_LN_takeNameAndColon_4 rfl hl (by decide) (by first | rfl | simp [hq_cat, hq_catI, hq_catL]) (fun ls hl => ?_)
  refine hq_aload_n C.1.1 C.1.2.1 d_LN_takeNameAndColon_5 rfl (lv_at hl 1 rfl) ?_
  refine lv_bipush (v := 58) C.1.1 C.1.2.1 d_LN_takeNameAndColon_6 (by decide) ?_
  replace hf := Option.bind_eq_some_iff.mp hf
  obtain ⟨b7, e8, hf⟩ := hf
  obtain ⟨e8r, _, e8c⟩ := hp_o_inv e8
  cases e8r
  replace hf := Option.bind_eq_some_iff.mp hf
  obtain ⟨q5, e6, hf⟩ := hf
  refine hq_callW gt_good C I hl.1 (k_LN_take l G B _ t0 (58 : Int32) q5 e6) M_LN_54 e8c rfl ⟨rfl, rfl⟩ ⟨Nat.le_of_ble_eq_true rfl, Nat.le_of_ble_eq_true rfl⟩ rfl (Nat.le_of_ble_eq_true rfl) d_LN_takeNameAndColon_8 ⟨Nat.le_of_ble_eq_true rfl, Nat.le_of_ble_eq_true rfl⟩ (fun H locs I => ?_)
  refine W.widen (k := 0) (n := 0) (by decide) (by decide) ?_
  refine lv_if_eq (tgt := 18) C.1.1 C.1.2.1 d_LN_takeNameAndColon_11 (by decide) (fun c9 => ?_) (fun c9 => ?_)
  · rw [if_pos c9] at hf
    refine lv_lconst (v := 0) C.1.1 C.1.2.1 d_LN_takeNameAndColon_18 (by decide) ?_
    cases hf
    exact hq_lret C I (by decide) (by decide) d_LN_takeNameAndColon_19
  · rw [if_neg c9] at hf
    refine lv_lload_n C.1.1 C.1.2.1 d_LN_takeNameAndColon_14 rfl (lv_at hl 0 rfl) ?_
    refine lv_goto (tgt := 19) C.1.1 C.1.2.1 d_LN_takeNameAndColon_15 (by decide) ?_
    cases hf
    exact hq_lret C I (by decide) (by decide) d_LN_takeNameAndColon_19
set_option maxRecDepth 100000 in
set_option maxHeartbeats 4000000 in
theorem k_LL_isDigit (l : Launch) (G : hp_G) (B : Nat) (h : hp_H) (p0 : Int32) (out : Int32 × hp_H) (hf : f_LL_isDigit h p0 = some out) : Met l y_LL_isDigit (.code y_LL_isDigit b_LL_isDigit 1 ((Option.some Jvm.ClassFile.FieldType.boolean)) :: gt) ({ frames := 0, cells := 0, slots := 0, locals := 0 }) (hq_Pc G vwCl aTs B h [.int p0]) (hq_Q G vwCl B (some (.int out.1)) out.2) 0 0 (fun q => B ≤ q) := by
  refine hq_enter (nL := 1) (by decide +kernel) (Nat.le_of_ble_eq_true rfl) ?_
  intro p e s m args below meth c C I ls hl
  have hl : lv_has ls 1 [(0, .int p0)] := hl
  unfold f_LL_isDigit at hf
  refine lv_iload_n C.1.1 C.1.2.1 d_LL_isDigit_0 rfl (lv_at hl 0 rfl) ?_
  refine lv_bipush (v := 48) C.1.1 C.1.2.1 d_LL_isDigit_1 (by decide) ?_
  refine lv_icmp_lt (tgt := 16) C.1.1 C.1.2.1 d_LL_isDigit_3 (by decide) (fun c1 => ?_) (fun c1 => ?_)
  · rw [if_pos c1] at hf
    refine lv_iconst (v := 0) C.1.1 C.1.2.1 d_LL_isDigit_16 (by decide) ?_
    cases hf
    exact hq_zret C I (hp_z_nar (x := 0) (Or.inl rfl)).1 (by decide) (by decide) d_LL_isDigit_17
  · rw [if_neg c1] at hf
    refine lv_iload_n C.1.1 C.1.2.1 d_LL_isDigit_6 rfl (lv_at hl 0 rfl) ?_
    refine lv_bipush (v := 57) C.1.1 C.1.2.1 d_LL_isDigit_7 (by decide) ?_
    refine lv_icmp_gt (tgt := 16) C.1.1 C.1.2.1 d_LL_isDigit_9 (by decide) (fun c2 => ?_) (fun c2 => ?_)
    · rw [if_pos c2] at hf
      refine lv_iconst (v := 0) C.1.1 C.1.2.1 d_LL_isDigit_16 (by decide) ?_
      cases hf
      exact hq_zret C I (hp_z_nar (x := 0) (Or.inl rfl)).1 (by decide) (by decide) d_LL_isDigit_17
    · rw [if_neg c2] at hf
      refine lv_iconst (v := 1) C.1.1 C.1.2.1 d_LL_isDigit_12 (by decide) ?_
      refine lv_goto (tgt := 17) C.1.1 C.1.2.1 d_LL_isDigit_13 (by decide) ?_
      cases hf
      exact hq_zret C I (hp_z_nar (x := 1) (Or.inr rfl)).1 (by decide) (by decide) d_LL_isDigit_17
set_option maxRecDepth 100000 in
set_option maxHeartbeats 4000000 in
theorem k_LL_isSeparator (l : Launch) (G : hp_G) (B : Nat) (h : hp_H) (p0 : Int32) (out : Int32 × hp_H) (hf : f_LL_isSeparator h p0 = some out) : Met l y_LL_isSeparator (.code y_LL_isSeparator b_LL_isSeparator 1 ((Option.some Jvm.ClassFile.FieldType.boolean)) :: gt) ({ frames := 0, cells := 0, slots := 0, locals := 0 }) (hq_Pc G vwCl aTs B h [.int p0]) (hq_Q G vwCl B (some (.int out.1)) out.2) 0 0 (fun q => B ≤ q) := by
  refine hq_enter (nL := 1) (by decide +kernel) (Nat.le_of_ble_eq_true rfl) ?_
  intro p e s m args below meth c C I ls hl
  have hl : lv_has ls 1 [(0, .int p0)] := hl
  unfold f_LL_isSeparator at hf
  refine lv_iload_n C.1.1 C.1.2.1 d_LL_isSeparator_0 rfl (lv_at hl 0 rfl) ?_
  refine lv_bipush (v := 46) C.1.1 C.1.2.1 d_LL_isSeparator_1 (by decide) ?_
  refine lv_icmp_eq (tgt := 12) C.1.1 C.1.2.1 d_LL_isSeparator_3 (by decide) (fun c1 => ?_) (fun c1 => ?_)
  · rw [if_pos c1] at hf
    refine lv_iconst (v := 1) C.1.1 C.1.2.1 d_LL_isSeparator_12 (by decide) ?_
    refine lv_goto (tgt := 17) C.1.1 C.1.2.1 d_LL_isSeparator_13 (by decide) ?_
    cases hf
    exact hq_zret C I (hp_z_nar (x := 1) (Or.inr rfl)).1 (by decide) (by decide) d_LL_isSeparator_17
  · rw [if_neg c1] at hf
    refine lv_iload_n C.1.1 C.1.2.1 d_LL_isSeparator_6 rfl (lv_at hl 0 rfl) ?_
    refine lv_bipush (v := 45) C.1.1 C.1.2.1 d_LL_isSeparator_7 (by decide) ?_
    refine lv_icmp_ne (tgt := 16) C.1.1 C.1.2.1 d_LL_isSeparator_9 (by decide) (fun c2 => ?_) (fun c2 => ?_)
    · rw [if_neg c2] at hf
      refine lv_iconst (v := 0) C.1.1 C.1.2.1 d_LL_isSeparator_16 (by decide) ?_
      cases hf
      exact hq_zret C I (hp_z_nar (x := 0) (Or.inl rfl)).1 (by decide) (by decide) d_LL_isSeparator_17
    · rw [if_pos c2] at hf
      refine lv_iconst (v := 1) C.1.1 C.1.2.1 d_LL_isSeparator_12 (by decide) ?_
      refine lv_goto (tgt := 17) C.1.1 C.1.2.1 d_LL_isSeparator_13 (by decide) ?_
      cases hf
      exact hq_zret C I (hp_z_nar (x := 1) (Or.inr rfl)).1 (by decide) (by decide) d_LL_isSeparator_17
set_option maxRecDepth 100000 in
set_option maxHeartbeats 4000000 in
theorem k_LN_isOfVersion (l : Launch) (G : hp_G) (B : Nat) (h : hp_H) (p0 : Int32) (out : Int32 × hp_H) (hf : f_LN_isOfVersion h p0 = some out) : Met l y_LN_isOfVersion (.code y_LN_isOfVersion b_LN_isOfVersion 1 ((Option.some Jvm.ClassFile.FieldType.boolean)) :: gt) ({ frames := 1, cells := 0, slots := 0, locals := 20 }) (hq_Pc G vwCl aTs B h [.int p0]) (hq_Q G vwCl B (some (.int out.1)) out.2) 0 0 (fun q => B ≤ q) := by
  refine hq_enter (nL := 1) (by decide +kernel) (Nat.le_of_ble_eq_true rfl) ?_
  intro p e s m args below meth c C I ls hl
  have hl : lv_has ls 1 [(0, .int p0)] := hl
  unfold f_LN_isOfVersion at hf
  refine lv_iload_n C.1.1 C.1.2.1 d_LN_isOfVersion_0 rfl (lv_at hl 0 rfl) ?_
  replace hf := Option.bind_eq_some_iff.mp hf
  obtain ⟨q1, e2, hf⟩ := hf
  refine hq_callSN gt_good C I hl.1 (k_LL_isDigit l G B _ p0 q1 e2) M_LN_85 ⟨rfl, rfl⟩ ⟨Nat.le_of_ble_eq_true rfl, Nat.le_of_ble_eq_true rfl⟩ rfl (Nat.le_of_ble_eq_true rfl) d_LN_isOfVersion_1 ⟨Nat.le_of_ble_eq_true rfl, Nat.le_of_ble_eq_true rfl⟩ (fun H locs I => ?_)
  refine W.widen (k := 0) (n := 0) (by decide) (by decide) ?_
  refine lv_if_ne (tgt := 21) C.1.1 C.1.2.1 d_LN_isOfVersion_4 (by decide) (fun c3 => ?_) (fun c3 => ?_)
  · rw [if_neg c3] at hf
    refine lv_iconst (v := 1) C.1.1 C.1.2.1 d_LN_isOfVersion_21 (by decide) ?_
    refine lv_goto (tgt := 26) C.1.1 C.1.2.1 d_LN_isOfVersion_22 (by decide) ?_
    cases hf
    exact hq_zret C I (hp_z_nar (x := 1) (Or.inr rfl)).1 (by decide) (by decide) d_LN_isOfVersion_26
  · rw [if_pos c3] at hf
    refine lv_iload_n C.1.1 C.1.2.1 d_LN_isOfVersion_7 rfl (lv_at hl 0 rfl) ?_
    replace hf := Option.bind_eq_some_iff.mp hf
    obtain ⟨q4, e5, hf⟩ := hf
    refine hq_callSN gt_good C I hl.1 (k_LL_isLetter l G B _ p0 q4 e5) M_LN_41 ⟨rfl, rfl⟩ ⟨Nat.le_of_ble_eq_true rfl, Nat.le_of_ble_eq_true rfl⟩ rfl (Nat.le_of_ble_eq_true rfl) d_LN_isOfVersion_8 ⟨Nat.le_of_ble_eq_true rfl, Nat.le_of_ble_eq_true rfl⟩ (fun H locs I => ?_)
    refine W.widen (k := 0) (n := 0) (by decide) (by decide) ?_
    refine lv_if_ne (tgt := 21) C.1.1 C.1.2.1 d_LN_isOfVersion_11 (by decide) (fun c6 => ?_) (fun c6 => ?_)
    · rw [if_neg c6] at hf
      refine lv_iconst (v := 1) C.1.1 C.1.2.1 d_LN_isOfVersion_21 (by decide) ?_
      refine lv_goto (tgt := 26) C.1.1 C.1.2.1 d_LN_isOfVersion_22 (by decide) ?_
      cases hf
      exact hq_zret C I (hp_z_nar (x := 1) (Or.inr rfl)).1 (by decide) (by decide) d_LN_isOfVersion_26
    · rw [if_pos c6] at hf
      refine lv_iload_n C.1.1 C.1.2.1 d_LN_isOfVersion_14 rfl (lv_at hl 0 rfl) ?_
      replace hf := Option.bind_eq_some_iff.mp hf
      obtain ⟨q7, e8, hf⟩ := hf
      refine hq_callSN gt_good C I hl.1 (k_LL_isSeparator l G B _ p0 q7 e8) M_LN_88 ⟨rfl, rfl⟩ ⟨Nat.le_of_ble_eq_true rfl, Nat.le_of_ble_eq_true rfl⟩ rfl (Nat.le_of_ble_eq_true rfl) d_LN_isOfVersion_15 ⟨Nat.le_of_ble_eq_true rfl, Nat.le_of_ble_eq_true rfl⟩ (fun H locs I => ?_)
      refine W.widen (k := 0) (n := 0) (by decide) (by decide) ?_
      refine lv_if_eq (tgt := 25) C.1.1 C.1.2.1 d_LN_isOfVersion_18 (by decide) (fun c9 => ?_) (fun c9 => ?_)
      · rw [if_pos c9] at hf
        refine lv_iconst (v := 0) C.1.1 C.1.2.1 d_LN_isOfVersion_25 (by decide) ?_
        cases hf
        exact hq_zret C I (hp_z_nar (x := 0) (Or.inl rfl)).1 (by decide) (by decide) d_LN_isOfVersion_26
      · rw [if_neg c9] at hf
        refine lv_iconst (v := 1) C.1.1 C.1.2.1 d_LN_isOfVersion_21 (by decide) ?_
        refine lv_goto (tgt := 26) C.1.1 C.1.2.1 d_LN_isOfVersion_22 (by decide) ?_
        cases hf
        exact hq_zret C I (hp_z_nar (x := 1) (Or.inr rfl)).1 (by decide) (by decide) d_LN_isOfVersion_26
set_option maxRecDepth 100000 in
set_option maxHeartbeats 4000000 in
theorem k_LN_isVersion_L32 {p : Program} {l : Launch} {e : Env} {s : State} {m : MethodId} {args : Array Value} {below : List Frame} {meth : Method} {c : Code} {G : hp_G} {B : Nat} (C : hq_C p s m args meth c b_LN_isVersion 6 ((Option.some Jvm.ClassFile.FieldType.boolean)) "LayeredLauncher$Line" "isVersion" gt G vwCl aTs) : ∀ (n : Nat) (t0 : Nat) (y2 : Int32) (y3 : Int32) (y4 : Int32) (h : hp_H) (out : Int32 × hp_H), f_LN_isVersion_L32 n t0 y2 y3 y4 h = some out → ∀ (H : Heap) (locs : List Loc), hp_I G vwCl B s.heap h H locs → ∀ ls : Array Slot, lv_has ls 6 [(0, va_rf (some t0)), (2, .int y2), (3, .int y3), (4, .int y4)] → W p l e ({ frames := 1, cells := 0, slots := 0, locals := 20 }) s m args below meth c H locs 0 0 (MQ below (hq_Q G vwCl B (some (.int out.1)) out.2) args s 0 0 (fun q => B ≤ q)) (F0 m 32 ls []) := by
  intro n
  induction n with
  | zero => intro t0 y2 y3 y4 h out hf; simp [f_LN_isVersion_L32] at hf
  | succ n ih =>
    intro t0 y2 y3 y4 h out hf H locs I ls hl
    simp only [f_LN_isVersion_L32] at hf
    refine lv_iload C.1.1 C.1.2.1 d_LN_isVersion_32 (lv_at hl 3 rfl) ?_
    refine lv_iload_n C.1.1 C.1.2.1 d_LN_isVersion_34 rfl (lv_at hl 1 rfl) ?_
    refine lv_icmp_ge (tgt := 70) C.1.1 C.1.2.1 d_LN_isVersion_35 (by decide) (fun c10 => ?_) (fun c10 => ?_)
    · rw [if_pos c10] at hf
      refine lv_iload_n C.1.1 C.1.2.1 d_LN_isVersion_70 rfl (lv_at hl 2 rfl) ?_
      refine lv_if_ne (tgt := 78) C.1.1 C.1.2.1 d_LN_isVersion_71 (by decide) (fun c11 => ?_) (fun c11 => ?_)
      · rw [if_neg c11] at hf
        refine lv_iconst (v := 0) C.1.1 C.1.2.1 d_LN_isVersion_78 (by decide) ?_
        cases hf
        exact hq_zret C I (hp_z_nar (x := 0) (Or.inl rfl)).1 (by decide) (by decide) d_LN_isVersion_79
      · rw [if_pos c11] at hf
        refine lv_iconst (v := 1) C.1.1 C.1.2.1 d_LN_isVersion_74 (by decide) ?_
        refine lv_goto (tgt := 79) C.1.1 C.1.2.1 d_LN_isVersion_75 (by decide) ?_
        cases hf
        exact hq_zret C I (hp_z_nar (x := 1) (Or.inr rfl)).1 (by decide) (by decide) d_LN_isVersion_79
    · rw [if_neg c10] at hf
      refine hq_aload_n C.1.1 C.1.2.1 d_LN_isVersion_38 rfl (lv_at hl 0 rfl) ?_
      replace hf := Option.bind_eq_some_iff.mp hf
      obtain ⟨x12, e13, hf⟩ := hf
      refine hq_getR C I F_LN_9 e13 d_LN_isVersion_39 ?_
      refine lv_iload C.1.1 C.1.2.1 d_LN_isVersion_42 (lv_at hl 3 rfl) ?_
      replace hf := Option.bind_eq_some_iff.mp hf
      obtain ⟨x14, e15, hf⟩ := hf
      refine hq_cald C I (t := 2) rfl e15 d_LN_isVersion_44 ?_
      replace hf := Option.bind_eq_some_iff.mp hf
      obtain ⟨q16, e17, hf⟩ := hf
      refine hq_callSN gt_good C I hl.1 (k_LL_isSeparator l G B _ x14 q16 e17) M_LN_88 ⟨rfl, rfl⟩ ⟨Nat.le_of_ble_eq_true rfl, Nat.le_of_ble_eq_true rfl⟩ rfl (Nat.le_of_ble_eq_true rfl) d_LN_isVersion_45 ⟨Nat.le_of_ble_eq_true rfl, Nat.le_of_ble_eq_true rfl⟩ (fun H locs I => ?_)
      refine W.widen (k := 0) (n := 0) (by decide) (by decide) ?_
      refine lv_istore (i := 5) (lv' := [(5, .int q16.1), (0, va_rf (some t0)), (2, .int y2), (3, .int y3), (4, .int y4)]) C.1.1 C.1.2.1 d_LN_isVersion_48 hl (by decide) (by first | rfl | simp [hq_cat, hq_catI, hq_catL]) (fun ls hl => ?_)
      refine lv_iload C.1.1 C.1.2.1 d_LN_isVersion_50 (lv_at hl 0 rfl) ?_
      refine lv_if_eq (tgt := 61) C.1.1 C.1.2.1 d_LN_isVersion_52 (by decide) (fun c18 => ?_) (fun c18 => ?_)
      · rw [if_pos c18] at hf
        refine lv_iload C.1.1 C.1.2.1 d_LN_isVersion_61 (lv_at hl 0 rfl) ?_
        refine lv_istore_n (i := 3) (lv' := [(3, .int q16.1), (5, .int q16.1), (0, va_rf (some t0)), (2, .int y2), (4, .int y4)]) C.1.1 C.1.2.1 d_LN_isVersion_63 rfl hl (by decide) (by first | rfl | simp [hq_cat, hq_catI, hq_catL]) (fun ls hl => ?_)
        refine lv_iinc (v := (y4 + 1)) (lv' := [(4, .int (y4 + 1)), (3, .int q16.1), (5, .int q16.1), (0, va_rf (some t0)), (2, .int y2)]) C.1.1 C.1.2.1 d_LN_isVersion_64 hl (k := 4) rfl rfl (by decide) (by first | rfl | simp [hq_cat, hq_catI, hq_catL]) (fun ls hl => ?_)
        refine lv_goto (tgt := 32) C.1.1 C.1.2.1 d_LN_isVersion_67 (by decide) ?_
        refine W.widen (k := 0) (n := 0) (by decide) (by decide) ?_
        exact ih t0 y2 q16.1 (y4 + 1) q16.2 _ hf _ _ I ls (lv_sub hl [3, 4, 1, 0] rfl)
      · rw [if_neg c18] at hf
        refine lv_iload_n C.1.1 C.1.2.1 d_LN_isVersion_55 rfl (lv_at hl 3 rfl) ?_
        refine lv_if_eq (tgt := 61) C.1.1 C.1.2.1 d_LN_isVersion_56 (by decide) (fun c19 => ?_) (fun c19 => ?_)
        · rw [if_pos c19] at hf
          refine lv_iload C.1.1 C.1.2.1 d_LN_isVersion_61 (lv_at hl 0 rfl) ?_
          refine lv_istore_n (i := 3) (lv' := [(3, .int q16.1), (5, .int q16.1), (0, va_rf (some t0)), (2, .int y2), (4, .int y4)]) C.1.1 C.1.2.1 d_LN_isVersion_63 rfl hl (by decide) (by first | rfl | simp [hq_cat, hq_catI, hq_catL]) (fun ls hl => ?_)
          refine lv_iinc (v := (y4 + 1)) (lv' := [(4, .int (y4 + 1)), (3, .int q16.1), (5, .int q16.1), (0, va_rf (some t0)), (2, .int y2)]) C.1.1 C.1.2.1 d_LN_isVersion_64 hl (k := 4) rfl rfl (by decide) (by first | rfl | simp [hq_cat, hq_catI, hq_catL]) (fun ls hl => ?_)
          refine lv_goto (tgt := 32) C.1.1 C.1.2.1 d_LN_isVersion_67 (by decide) ?_
          refine W.widen (k := 0) (n := 0) (by decide) (by decide) ?_
          exact ih t0 y2 q16.1 (y4 + 1) q16.2 _ hf _ _ I ls (lv_sub hl [3, 4, 1, 0] rfl)
        · rw [if_neg c19] at hf
          refine lv_iconst (v := 0) C.1.1 C.1.2.1 d_LN_isVersion_59 (by decide) ?_
          cases hf
          exact hq_zret C I (hp_z_nar (x := 0) (Or.inl rfl)).1 (by decide) (by decide) d_LN_isVersion_60
set_option maxRecDepth 100000 in
set_option maxHeartbeats 4000000 in
theorem k_LN_isVersion (l : Launch) (G : hp_G) (B : Nat) (h : hp_H) (t0 : Nat) (p1 : Int32) (p2 : Int32) (out : Int32 × hp_H) (hf : f_LN_isVersion h t0 p1 p2 = some out) : Met l y_LN_isVersion (.code y_LN_isVersion b_LN_isVersion 6 ((Option.some Jvm.ClassFile.FieldType.boolean)) :: gt) ({ frames := 1, cells := 0, slots := 0, locals := 20 }) (hq_Pc G vwCl aTs B h [.ref t0, .int p1, .int p2]) (hq_Q G vwCl B (some (.int out.1)) out.2) 0 0 (fun q => B ≤ q) := by
  refine hq_enter (nL := 6) (by decide +kernel) (Nat.le_of_ble_eq_true rfl) ?_
  intro p e s m args below meth c C I ls hl
  have hl : lv_has ls 6 [(0, va_rf (some t0)), (1, .int p1), (2, .int p2)] := hl
  unfold f_LN_isVersion at hf
  refine lv_iload_n C.1.1 C.1.2.1 d_LN_isVersion_0 rfl (lv_at hl 1 rfl) ?_
  refine lv_iload_n C.1.1 C.1.2.1 d_LN_isVersion_1 rfl (lv_at hl 2 rfl) ?_
  refine lv_icmp_eq (tgt := 25) C.1.1 C.1.2.1 d_LN_isVersion_2 (by decide) (fun c1 => ?_) (fun c1 => ?_)
  · rw [if_pos c1] at hf
    refine lv_iconst (v := 0) C.1.1 C.1.2.1 d_LN_isVersion_25 (by decide) ?_
    cases hf
    exact hq_zret C I (hp_z_nar (x := 0) (Or.inl rfl)).1 (by decide) (by decide) d_LN_isVersion_26
  · rw [if_neg c1] at hf
    refine lv_iload_n C.1.1 C.1.2.1 d_LN_isVersion_5 rfl (lv_at hl 2 rfl) ?_
    refine lv_iload_n C.1.1 C.1.2.1 d_LN_isVersion_6 rfl (lv_at hl 1 rfl) ?_
    refine lv_isub C.1.1 C.1.2.1 d_LN_isVersion_7 ?_
    refine lv_bipush (v := 12) C.1.1 C.1.2.1 d_LN_isVersion_8 (by decide) ?_
    refine lv_icmp_gt (tgt := 25) C.1.1 C.1.2.1 d_LN_isVersion_10 (by decide) (fun c2 => ?_) (fun c2 => ?_)
    · rw [if_pos c2] at hf
      refine lv_iconst (v := 0) C.1.1 C.1.2.1 d_LN_isVersion_25 (by decide) ?_
      cases hf
      exact hq_zret C I (hp_z_nar (x := 0) (Or.inl rfl)).1 (by decide) (by decide) d_LN_isVersion_26
    · rw [if_neg c2] at hf
      refine hq_aload_n C.1.1 C.1.2.1 d_LN_isVersion_13 rfl (lv_at hl 0 rfl) ?_
      replace hf := Option.bind_eq_some_iff.mp hf
      obtain ⟨x3, e4, hf⟩ := hf
      refine hq_getR C I F_LN_9 e4 d_LN_isVersion_14 ?_
      refine lv_iload_n C.1.1 C.1.2.1 d_LN_isVersion_17 rfl (lv_at hl 1 rfl) ?_
      replace hf := Option.bind_eq_some_iff.mp hf
      obtain ⟨x5, e6, hf⟩ := hf
      refine hq_cald C I (t := 2) rfl e6 d_LN_isVersion_18 ?_
      replace hf := Option.bind_eq_some_iff.mp hf
      obtain ⟨q7, e8, hf⟩ := hf
      refine hq_callSN gt_good C I hl.1 (k_LL_isDigit l G B _ x5 q7 e8) M_LN_85 ⟨rfl, rfl⟩ ⟨Nat.le_of_ble_eq_true rfl, Nat.le_of_ble_eq_true rfl⟩ rfl (Nat.le_of_ble_eq_true rfl) d_LN_isVersion_19 ⟨Nat.le_of_ble_eq_true rfl, Nat.le_of_ble_eq_true rfl⟩ (fun H locs I => ?_)
      refine W.widen (k := 0) (n := 0) (by decide) (by decide) ?_
      refine lv_if_ne (tgt := 27) C.1.1 C.1.2.1 d_LN_isVersion_22 (by decide) (fun c9 => ?_) (fun c9 => ?_)
      · rw [if_neg c9] at hf
        refine lv_iconst (v := 0) C.1.1 C.1.2.1 d_LN_isVersion_27 (by decide) ?_
        refine lv_istore_n (i := 3) (lv' := [(3, .int (0 : Int32)), (0, va_rf (some t0)), (1, .int p1), (2, .int p2)]) C.1.1 C.1.2.1 d_LN_isVersion_28 rfl hl (by decide) (by first | rfl | simp [hq_cat, hq_catI, hq_catL]) (fun ls hl => ?_)
        refine lv_iload_n C.1.1 C.1.2.1 d_LN_isVersion_29 rfl (lv_at hl 2 rfl) ?_
        refine lv_istore (i := 4) (lv' := [(4, .int p1), (3, .int (0 : Int32)), (0, va_rf (some t0)), (1, .int p1), (2, .int p2)]) C.1.1 C.1.2.1 d_LN_isVersion_30 hl (by decide) (by first | rfl | simp [hq_cat, hq_catI, hq_catL]) (fun ls hl => ?_)
        refine W.widen (k := 0) (n := 0) (by decide) (by decide) ?_
        exact k_LN_isVersion_L32 C FU t0 p2 (0 : Int32) p1 q7.2 _ hf _ _ I ls (lv_sub hl [2, 4, 1, 0] rfl)
      · rw [if_pos c9] at hf
        refine lv_iconst (v := 0) C.1.1 C.1.2.1 d_LN_isVersion_25 (by decide) ?_
        cases hf
        exact hq_zret C I (hp_z_nar (x := 0) (Or.inl rfl)).1 (by decide) (by decide) d_LN_isVersion_26
set_option maxRecDepth 100000 in
set_option maxHeartbeats 4000000 in
theorem k_VS_init_L149 {p : Program} {l : Launch} {e : Env} {s : State} {m : MethodId} {args : Array Value} {below : List Frame} {meth : Method} {c : Code} {G : hp_G} {B : Nat} (C : hq_C p s m args meth c b_VS_init 10 ((Option.none : Option Jvm.ClassFile.FieldType)) "LayeredLauncher$Version" "<init>" gt G vwCl aTs) (k21 : Nat → Option Nat → Int32 → Int32 → Int32 → Int64 → Int32 → hp_H → Option (hp_H)) (hk21 : ∀ (t0 : Nat) (y1 : Option Nat) (y2 : Int32) (y3 : Int32) (y4 : Int32) (y5 : Int64) (y7 : Int32) (h : hp_H) (out : hp_H), k21 t0 y1 y2 y3 y4 y5 y7 h = some out → ∀ (H : Heap) (locs : List Loc), hp_I G vwCl B s.heap h H locs → ∀ ls : Array Slot, lv_has ls 10 [(0, va_rf (some t0)), (1, va_rf y1), (2, .int y2), (3, .int y3), (4, .int y4), (5, .long y5), (7, .int y7)] → W p l e ({ frames := 1, cells := 1, slots := 12, locals := 20 }) s m args below meth c H locs 1 12 (MQ below (hq_Q G vwCl B none out) args s 1 12 (fun q => B ≤ q)) (F0 m 21 ls [])) : ∀ (t0 : Nat) (y1 : Option Nat) (y2 : Int32) (y3 : Int32) (y4 : Int32) (y5 : Int64) (y7 : Int32) (y8 : Int32) (h : hp_H) (out : hp_H), f_VS_init_L149 k21 t0 y1 y2 y3 y4 y5 y7 y8 h = some out → ∀ (H : Heap) (locs : List Loc), hp_I G vwCl B s.heap h H locs → ∀ ls : Array Slot, lv_has ls 10 [(0, va_rf (some t0)), (1, va_rf y1), (2, .int y2), (3, .int y3), (4, .int y4), (5, .long y5), (7, .int y7), (8, .int y8)] → W p l e ({ frames := 1, cells := 1, slots := 12, locals := 20 }) s m args below meth c H locs 1 12 (MQ below (hq_Q G vwCl B none out) args s 1 12 (fun q => B ≤ q)) (F0 m 149 ls []) := by
  intro t0 y1 y2 y3 y4 y5 y7 y8 h out hf H locs I ls hl
  unfold f_VS_init_L149 at hf
  refine hq_aload_n C.1.1 C.1.2.1 d_VS_init_149 rfl (lv_at hl 0 rfl) ?_
  replace hf := Option.bind_eq_some_iff.mp hf
  obtain ⟨x28, e29, hf⟩ := hf
  refine hq_getR C I F_VS_9 e29 d_VS_init_150 ?_
  refine lv_iload C.1.1 C.1.2.1 d_VS_init_153 (lv_at hl 4 rfl) ?_
  refine lv_dup2_11 C.1.1 C.1.2.1 d_VS_init_155 rfl (hq_cat _) ?_
  replace hf := Option.bind_eq_some_iff.mp hf
  obtain ⟨x30, e31, hf⟩ := hf
  refine hq_lald C I (t := 1) rfl e31 d_VS_init_156 ?_
  refine lv_iload C.1.1 C.1.2.1 d_VS_init_157 (lv_at hl 7 rfl) ?_
  replace hf := Option.bind_eq_some_iff.mp hf
  obtain ⟨q32, e33, hf⟩ := hf
  refine hq_callSN gt_good C I hl.1 (k_LL_letterNumber l G B _ y8 q32 e33) M_VS_28 ⟨rfl, rfl⟩ ⟨Nat.le_of_ble_eq_true rfl, Nat.le_of_ble_eq_true rfl⟩ rfl (by simp [hq_cat, hq_catI, hq_catL]) d_VS_init_159 ⟨Nat.le_of_ble_eq_true rfl, Nat.le_of_ble_eq_true rfl⟩ (fun H locs I => ?_)
  refine W.widen (k := 1) (n := 12) (by decide) (by decide) ?_
  refine lv_i2l (v := (q32.1.toInt64)) C.1.1 C.1.2.1 d_VS_init_162 rfl ?_
  refine lv_lload C.1.1 C.1.2.1 d_VS_init_163 (lv_at hl 5 rfl) ?_
  refine lv_lmul C.1.1 C.1.2.1 d_VS_init_165 ?_
  refine lv_ladd C.1.1 C.1.2.1 d_VS_init_166 ?_
  replace hf := Option.bind_eq_some_iff.mp hf
  obtain ⟨h34, e35, hf⟩ := hf
  refine hq_last C I (t := 1) rfl e35 d_VS_init_167 (fun H locs I => ?_)
  refine lv_lload C.1.1 C.1.2.1 d_VS_init_168 (lv_at hl 5 rfl) ?_
  refine lv_ldc2 C.1.1 C.1.2.1 C.1.2.2.2.1 (C.1.2.2.2.2 (.constantLong "LayeredLauncher$Version" 32 (27)) g199) d_VS_init_170 ?_
  refine lv_ldiv C.1.1 C.1.2.1 d_VS_init_173 (by decide) ?_
  refine lv_lstore (i := 5) (lv' := [(5, .long (y5 / (27 : Int64))), (0, va_rf (some t0)), (1, va_rf y1), (2, .int y2), (3, .int y3), (4, .int y4), (7, .int y7), (8, .int y8)]) C.1.1 C.1.2.1 d_VS_init_174 hl (by decide) (by first | rfl | simp [hq_cat, hq_catI, hq_catL]) (fun ls hl => ?_)
  refine lv_iinc (v := (y7 + 1)) (lv' := [(7, .int (y7 + 1)), (5, .long (y5 / (27 : Int64))), (0, va_rf (some t0)), (1, va_rf y1), (2, .int y2), (3, .int y3), (4, .int y4), (8, .int y8)]) C.1.1 C.1.2.1 d_VS_init_176 hl (k := 6) rfl rfl (by decide) (by first | rfl | simp [hq_cat, hq_catI, hq_catL]) (fun ls hl => ?_)
  refine lv_goto (tgt := 21) C.1.1 C.1.2.1 d_VS_init_179 (by decide) ?_
  refine W.widen (k := 1) (n := 12) (by decide) (by decide) ?_
  exact hk21 t0 y1 y2 y3 y4 (y5 / (27 : Int64)) (y7 + 1) h34 _ hf _ _ I ls (lv_sub hl [2, 3, 4, 5, 6, 1, 0] rfl)
set_option maxRecDepth 100000 in
set_option maxHeartbeats 4000000 in
theorem k_VS_init_L84 {p : Program} {l : Launch} {e : Env} {s : State} {m : MethodId} {args : Array Value} {below : List Frame} {meth : Method} {c : Code} {G : hp_G} {B : Nat} (C : hq_C p s m args meth c b_VS_init 10 ((Option.none : Option Jvm.ClassFile.FieldType)) "LayeredLauncher$Version" "<init>" gt G vwCl aTs) (k21 : Nat → Option Nat → Int32 → Int32 → Int32 → Int64 → Int32 → hp_H → Option (hp_H)) (hk21 : ∀ (t0 : Nat) (y1 : Option Nat) (y2 : Int32) (y3 : Int32) (y4 : Int32) (y5 : Int64) (y7 : Int32) (h : hp_H) (out : hp_H), k21 t0 y1 y2 y3 y4 y5 y7 h = some out → ∀ (H : Heap) (locs : List Loc), hp_I G vwCl B s.heap h H locs → ∀ ls : Array Slot, lv_has ls 10 [(0, va_rf (some t0)), (1, va_rf y1), (2, .int y2), (3, .int y3), (4, .int y4), (5, .long y5), (7, .int y7)] → W p l e ({ frames := 1, cells := 1, slots := 12, locals := 20 }) s m args below meth c H locs 1 12 (MQ below (hq_Q G vwCl B none out) args s 1 12 (fun q => B ≤ q)) (F0 m 21 ls [])) : ∀ (t0 : Nat) (y1 : Option Nat) (y2 : Int32) (y3 : Int32) (y5 : Int64) (y7 : Int32) (y8 : Int32) (s0 : Int32) (s1 : Int32) (h : hp_H) (out : hp_H), f_VS_init_L84 k21 t0 y1 y2 y3 y5 y7 y8 s0 s1 h = some out → ∀ (H : Heap) (locs : List Loc), hp_I G vwCl B s.heap h H locs → ∀ ls : Array Slot, lv_has ls 10 [(0, va_rf (some t0)), (1, va_rf y1), (2, .int y2), (3, .int y3), (5, .long y5), (7, .int y7), (8, .int y8)] → W p l e ({ frames := 1, cells := 1, slots := 12, locals := 20 }) s m args below meth c H locs 1 12 (MQ below (hq_Q G vwCl B none out) args s 1 12 (fun q => B ≤ q)) (F0 m 84 ls [.int s0, .int s1]) := by
  intro t0 y1 y2 y3 y5 y7 y8 s0 s1 h out hf H locs I ls hl
  unfold f_VS_init_L84 at hf
  refine lv_iadd C.1.1 C.1.2.1 d_VS_init_84 ?_
  refine lv_istore (i := 4) (lv' := [(4, .int (s1 + s0)), (0, va_rf (some t0)), (1, va_rf y1), (2, .int y2), (3, .int y3), (5, .long y5), (7, .int y7), (8, .int y8)]) C.1.1 C.1.2.1 d_VS_init_85 hl (by decide) (by first | rfl | simp [hq_cat, hq_catI, hq_catL]) (fun ls hl => ?_)
  refine hq_aload_n C.1.1 C.1.2.1 d_VS_init_87 rfl (lv_at hl 1 rfl) ?_
  replace hf := Option.bind_eq_some_iff.mp hf
  obtain ⟨x36, e37, hf⟩ := hf
  refine hq_getR C I F_VS_9 e37 d_VS_init_88 ?_
  refine lv_iload C.1.1 C.1.2.1 d_VS_init_91 (lv_at hl 0 rfl) ?_
  refine hq_aload_n C.1.1 C.1.2.1 d_VS_init_93 rfl (lv_at hl 1 rfl) ?_
  replace hf := Option.bind_eq_some_iff.mp hf
  obtain ⟨x38, e39, hf⟩ := hf
  refine hq_getR C I F_VS_9 e39 d_VS_init_94 ?_
  refine lv_iload C.1.1 C.1.2.1 d_VS_init_97 (lv_at hl 0 rfl) ?_
  replace hf := Option.bind_eq_some_iff.mp hf
  obtain ⟨x40, e41, hf⟩ := hf
  refine hq_lald C I (t := 1) rfl e41 d_VS_init_99 ?_
  refine lv_ldc2 C.1.1 C.1.2.1 C.1.2.2.2.1 (C.1.2.2.2.2 (.constantLong "LayeredLauncher$Version" 19 (10)) g194) d_VS_init_100 ?_
  refine lv_lmul C.1.1 C.1.2.1 d_VS_init_103 ?_
  refine lv_iload C.1.1 C.1.2.1 d_VS_init_104 (lv_at hl 7 rfl) ?_
  refine lv_bipush (v := 48) C.1.1 C.1.2.1 d_VS_init_106 (by decide) ?_
  refine lv_isub C.1.1 C.1.2.1 d_VS_init_108 ?_
  refine lv_i2l (v := ((y8 - (48 : Int32)).toInt64)) C.1.1 C.1.2.1 d_VS_init_109 rfl ?_
  refine lv_ladd C.1.1 C.1.2.1 d_VS_init_110 ?_
  replace hf := Option.bind_eq_some_iff.mp hf
  obtain ⟨h42, e43, hf⟩ := hf
  refine hq_last C I (t := 1) rfl e43 d_VS_init_111 (fun H locs I => ?_)
  refine lv_goto (tgt := 176) C.1.1 C.1.2.1 d_VS_init_112 (by decide) ?_
  refine lv_iinc (v := (y7 + 1)) (lv' := [(7, .int (y7 + 1)), (4, .int (s1 + s0)), (0, va_rf (some t0)), (1, va_rf y1), (2, .int y2), (3, .int y3), (5, .long y5), (8, .int y8)]) C.1.1 C.1.2.1 d_VS_init_176 hl (k := 6) rfl rfl (by decide) (by first | rfl | simp [hq_cat, hq_catI, hq_catL]) (fun ls hl => ?_)
  refine lv_goto (tgt := 21) C.1.1 C.1.2.1 d_VS_init_179 (by decide) ?_
  refine W.widen (k := 1) (n := 12) (by decide) (by decide) ?_
  exact hk21 t0 y1 y2 y3 (s1 + s0) y5 (y7 + 1) h42 _ hf _ _ I ls (lv_sub hl [2, 3, 4, 5, 1, 6, 0] rfl)
set_option maxRecDepth 100000 in
set_option maxHeartbeats 4000000 in
theorem k_VS_init_L59 {p : Program} {l : Launch} {e : Env} {s : State} {m : MethodId} {args : Array Value} {below : List Frame} {meth : Method} {c : Code} {G : hp_G} {B : Nat} (C : hq_C p s m args meth c b_VS_init 10 ((Option.none : Option Jvm.ClassFile.FieldType)) "LayeredLauncher$Version" "<init>" gt G vwCl aTs) (k21 : Nat → Option Nat → Int32 → Int32 → Int32 → Int64 → Int32 → hp_H → Option (hp_H)) (hk21 : ∀ (t0 : Nat) (y1 : Option Nat) (y2 : Int32) (y3 : Int32) (y4 : Int32) (y5 : Int64) (y7 : Int32) (h : hp_H) (out : hp_H), k21 t0 y1 y2 y3 y4 y5 y7 h = some out → ∀ (H : Heap) (locs : List Loc), hp_I G vwCl B s.heap h H locs → ∀ ls : Array Slot, lv_has ls 10 [(0, va_rf (some t0)), (1, va_rf y1), (2, .int y2), (3, .int y3), (4, .int y4), (5, .long y5), (7, .int y7)] → W p l e ({ frames := 1, cells := 1, slots := 12, locals := 20 }) s m args below meth c H locs 1 12 (MQ below (hq_Q G vwCl B none out) args s 1 12 (fun q => B ≤ q)) (F0 m 21 ls [])) : ∀ (t0 : Nat) (y1 : Option Nat) (y2 : Int32) (y3 : Int32) (y4 : Int32) (y5 : Int64) (y7 : Int32) (y8 : Int32) (s0 : Int32) (h : hp_H) (out : hp_H), f_VS_init_L59 k21 t0 y1 y2 y3 y4 y5 y7 y8 s0 h = some out → ∀ (H : Heap) (locs : List Loc), hp_I G vwCl B s.heap h H locs → ∀ ls : Array Slot, lv_has ls 10 [(0, va_rf (some t0)), (1, va_rf y1), (2, .int y2), (3, .int y3), (4, .int y4), (5, .long y5), (7, .int y7), (8, .int y8)] → W p l e ({ frames := 1, cells := 1, slots := 12, locals := 20 }) s m args below meth c H locs 1 12 (MQ below (hq_Q G vwCl B none out) args s 1 12 (fun q => B ≤ q)) (F0 m 59 ls [.int s0]) := by
  intro t0 y1 y2 y3 y4 y5 y7 y8 s0 h out hf H locs I ls hl
  unfold f_VS_init_L59 at hf
  refine lv_istore (i := 9) (lv' := [(9, .int s0), (0, va_rf (some t0)), (1, va_rf y1), (2, .int y2), (3, .int y3), (4, .int y4), (5, .long y5), (7, .int y7), (8, .int y8)]) C.1.1 C.1.2.1 d_VS_init_59 hl (by decide) (by first | rfl | simp [hq_cat, hq_catI, hq_catL]) (fun ls hl => ?_)
  refine lv_iload C.1.1 C.1.2.1 d_VS_init_61 (lv_at hl 8 rfl) ?_
  replace hf := Option.bind_eq_some_iff.mp hf
  obtain ⟨q12, e13, hf⟩ := hf
  refine hq_callSN gt_good C I hl.1 (k_LL_isDigit l G B _ y8 q12 e13) M_VS_15 ⟨rfl, rfl⟩ ⟨Nat.le_of_ble_eq_true rfl, Nat.le_of_ble_eq_true rfl⟩ rfl (Nat.le_of_ble_eq_true rfl) d_VS_init_63 ⟨Nat.le_of_ble_eq_true rfl, Nat.le_of_ble_eq_true rfl⟩ (fun H locs I => ?_)
  refine W.widen (k := 1) (n := 12) (by decide) (by decide) ?_
  refine lv_if_eq (tgt := 115) C.1.1 C.1.2.1 d_VS_init_66 (by decide) (fun c14 => ?_) (fun c14 => ?_)
  · rw [if_pos c14] at hf
    refine lv_iload C.1.1 C.1.2.1 d_VS_init_115 (lv_at hl 8 rfl) ?_
    replace hf := Option.bind_eq_some_iff.mp hf
    obtain ⟨q15, e16, hf⟩ := hf
    refine hq_callSN gt_good C I hl.1 (k_LL_isLetter l G B _ y8 q15 e16) M_VS_21 ⟨rfl, rfl⟩ ⟨Nat.le_of_ble_eq_true rfl, Nat.le_of_ble_eq_true rfl⟩ rfl (Nat.le_of_ble_eq_true rfl) d_VS_init_117 ⟨Nat.le_of_ble_eq_true rfl, Nat.le_of_ble_eq_true rfl⟩ (fun H locs I => ?_)
    refine W.widen (k := 1) (n := 12) (by decide) (by decide) ?_
    refine lv_if_eq (tgt := 176) C.1.1 C.1.2.1 d_VS_init_120 (by decide) (fun c17 => ?_) (fun c17 => ?_)
    · rw [if_pos c17] at hf
      refine lv_iinc (v := (y7 + 1)) (lv' := [(7, .int (y7 + 1)), (9, .int s0), (0, va_rf (some t0)), (1, va_rf y1), (2, .int y2), (3, .int y3), (4, .int y4), (5, .long y5), (8, .int y8)]) C.1.1 C.1.2.1 d_VS_init_176 hl (k := 7) rfl rfl (by decide) (by first | rfl | simp [hq_cat, hq_catI, hq_catL]) (fun ls hl => ?_)
      refine lv_goto (tgt := 21) C.1.1 C.1.2.1 d_VS_init_179 (by decide) ?_
      refine W.widen (k := 1) (n := 12) (by decide) (by decide) ?_
      exact hk21 t0 y1 y2 y3 y4 y5 (y7 + 1) q15.2 _ hf _ _ I ls (lv_sub hl [2, 3, 4, 5, 6, 7, 0] rfl)
    · rw [if_neg c17] at hf
      refine lv_iload C.1.1 C.1.2.1 d_VS_init_123 (lv_at hl 0 rfl) ?_
      replace hf := Option.bind_eq_some_iff.mp hf
      obtain ⟨q18, e19, hf⟩ := hf
      refine hq_callSN gt_good C I hl.1 (k_LL_isLetter l G B _ s0 q18 e19) M_VS_21 ⟨rfl, rfl⟩ ⟨Nat.le_of_ble_eq_true rfl, Nat.le_of_ble_eq_true rfl⟩ rfl (Nat.le_of_ble_eq_true rfl) d_VS_init_125 ⟨Nat.le_of_ble_eq_true rfl, Nat.le_of_ble_eq_true rfl⟩ (fun H locs I => ?_)
      refine W.widen (k := 1) (n := 12) (by decide) (by decide) ?_
      refine lv_if_ne (tgt := 149) C.1.1 C.1.2.1 d_VS_init_128 (by decide) (fun c20 => ?_) (fun c20 => ?_)
      · rw [if_neg c20] at hf
        refine W.widen (k := 1) (n := 12) (by decide) (by decide) ?_
        exact k_VS_init_L149 C _ hk21 t0 y1 y2 y3 y4 y5 y7 y8 q18.2 _ hf _ _ I ls (lv_sub hl [1, 2, 3, 4, 5, 6, 7, 8] rfl)
      · rw [if_pos c20] at hf
        refine lv_iinc (v := (y4 + 1)) (lv' := [(4, .int (y4 + 1)), (9, .int s0), (0, va_rf (some t0)), (1, va_rf y1), (2, .int y2), (3, .int y3), (5, .long y5), (7, .int y7), (8, .int y8)]) C.1.1 C.1.2.1 d_VS_init_131 hl (k := 5) rfl rfl (by decide) (by first | rfl | simp [hq_cat, hq_catI, hq_catL]) (fun ls hl => ?_)
        refine lv_ldc2 C.1.1 C.1.2.1 C.1.2.2.2.1 (C.1.2.2.2.2 (.constantLong "LayeredLauncher$Version" 24 (205891132094649)) g196) d_VS_init_134 ?_
        refine lv_lstore (i := 5) (lv' := [(5, .long (205891132094649 : Int64)), (4, .int (y4 + 1)), (9, .int s0), (0, va_rf (some t0)), (1, va_rf y1), (2, .int y2), (3, .int y3), (7, .int y7), (8, .int y8)]) C.1.1 C.1.2.1 d_VS_init_137 hl (by decide) (by first | rfl | simp [hq_cat, hq_catI, hq_catL]) (fun ls hl => ?_)
        refine hq_aload_n C.1.1 C.1.2.1 d_VS_init_139 rfl (lv_at hl 3 rfl) ?_
        replace hf := Option.bind_eq_some_iff.mp hf
        obtain ⟨x21, e22, hf⟩ := hf
        refine hq_getR C I F_VS_9 e22 d_VS_init_140 ?_
        refine lv_iload C.1.1 C.1.2.1 d_VS_init_143 (lv_at hl 1 rfl) ?_
        refine lv_ldc2 C.1.1 C.1.2.1 C.1.2.2.2.1 (C.1.2.2.2.2 (.constantLong "LayeredLauncher$Version" 26 (-5559060566555523)) g197) d_VS_init_145 ?_
        replace hf := Option.bind_eq_some_iff.mp hf
        obtain ⟨h23, e24, hf⟩ := hf
        refine hq_last C I (t := 1) rfl e24 d_VS_init_148 (fun H locs I => ?_)
        refine W.widen (k := 1) (n := 12) (by decide) (by decide) ?_
        exact k_VS_init_L149 C _ hk21 t0 y1 y2 y3 (y4 + 1) (205891132094649 : Int64) y7 y8 h23 _ hf _ _ I ls (lv_sub hl [3, 4, 5, 6, 1, 0, 7, 8] rfl)
  · rw [if_neg c14] at hf
    refine lv_iload C.1.1 C.1.2.1 d_VS_init_69 (lv_at hl 5 rfl) ?_
    refine lv_iload C.1.1 C.1.2.1 d_VS_init_71 (lv_at hl 0 rfl) ?_
    replace hf := Option.bind_eq_some_iff.mp hf
    obtain ⟨q25, e26, hf⟩ := hf
    refine hq_callSN gt_good C I hl.1 (k_LL_isDigit l G B _ s0 q25 e26) M_VS_15 ⟨rfl, rfl⟩ ⟨Nat.le_of_ble_eq_true rfl, Nat.le_of_ble_eq_true rfl⟩ rfl (Nat.le_of_ble_eq_true rfl) d_VS_init_73 ⟨Nat.le_of_ble_eq_true rfl, Nat.le_of_ble_eq_true rfl⟩ (fun H locs I => ?_)
    refine W.widen (k := 1) (n := 12) (by decide) (by decide) ?_
    refine lv_if_eq (tgt := 83) C.1.1 C.1.2.1 d_VS_init_76 (by decide) (fun c27 => ?_) (fun c27 => ?_)
    · rw [if_pos c27] at hf
      refine lv_iconst (v := 1) C.1.1 C.1.2.1 d_VS_init_83 (by decide) ?_
      refine W.widen (k := 1) (n := 12) (by decide) (by decide) ?_
      exact k_VS_init_L84 C _ hk21 t0 y1 y2 y3 y5 y7 y8 (1 : Int32) y4 q25.2 _ hf _ _ I ls (lv_sub hl [1, 2, 3, 4, 6, 7, 8] rfl)
    · rw [if_neg c27] at hf
      refine lv_iconst (v := 0) C.1.1 C.1.2.1 d_VS_init_79 (by decide) ?_
      refine lv_goto (tgt := 84) C.1.1 C.1.2.1 d_VS_init_80 (by decide) ?_
      refine W.widen (k := 1) (n := 12) (by decide) (by decide) ?_
      exact k_VS_init_L84 C _ hk21 t0 y1 y2 y3 y5 y7 y8 (0 : Int32) y4 q25.2 _ hf _ _ I ls (lv_sub hl [1, 2, 3, 4, 6, 7, 8] rfl)
set_option maxRecDepth 100000 in
set_option maxHeartbeats 4000000 in
theorem k_VS_init_L21 {p : Program} {l : Launch} {e : Env} {s : State} {m : MethodId} {args : Array Value} {below : List Frame} {meth : Method} {c : Code} {G : hp_G} {B : Nat} (C : hq_C p s m args meth c b_VS_init 10 ((Option.none : Option Jvm.ClassFile.FieldType)) "LayeredLauncher$Version" "<init>" gt G vwCl aTs) : ∀ (n : Nat) (t0 : Nat) (y1 : Option Nat) (y2 : Int32) (y3 : Int32) (y4 : Int32) (y5 : Int64) (y7 : Int32) (h : hp_H) (out : hp_H), f_VS_init_L21 n t0 y1 y2 y3 y4 y5 y7 h = some out → ∀ (H : Heap) (locs : List Loc), hp_I G vwCl B s.heap h H locs → ∀ ls : Array Slot, lv_has ls 10 [(0, va_rf (some t0)), (1, va_rf y1), (2, .int y2), (3, .int y3), (4, .int y4), (5, .long y5), (7, .int y7)] → W p l e ({ frames := 1, cells := 1, slots := 12, locals := 20 }) s m args below meth c H locs 1 12 (MQ below (hq_Q G vwCl B none out) args s 1 12 (fun q => B ≤ q)) (F0 m 21 ls []) := by
  intro n
  induction n with
  | zero => intro t0 y1 y2 y3 y4 y5 y7 h out hf; simp [f_VS_init_L21] at hf
  | succ n ih =>
    intro t0 y1 y2 y3 y4 y5 y7 h out hf H locs I ls hl
    simp only [f_VS_init_L21] at hf
    refine lv_iload C.1.1 C.1.2.1 d_VS_init_21 (lv_at hl 6 rfl) ?_
    refine lv_iload_n C.1.1 C.1.2.1 d_VS_init_23 rfl (lv_at hl 3 rfl) ?_
    refine lv_icmp_ge (tgt := 182) C.1.1 C.1.2.1 d_VS_init_24 (by decide) (fun c5 => ?_) (fun c5 => ?_)
    · rw [if_pos c5] at hf
      cases hf
      exact hq_vret C I (by decide) (by decide) d_VS_init_182
    · rw [if_neg c5] at hf
      refine lv_iload C.1.1 C.1.2.1 d_VS_init_27 (lv_at hl 6 rfl) ?_
      refine lv_iload_n C.1.1 C.1.2.1 d_VS_init_29 rfl (lv_at hl 2 rfl) ?_
      refine lv_isub C.1.1 C.1.2.1 d_VS_init_30 ?_
      refine lv_bipush (v := 12) C.1.1 C.1.2.1 d_VS_init_31 (by decide) ?_
      refine lv_icmp_ge (tgt := 182) C.1.1 C.1.2.1 d_VS_init_33 (by decide) (fun c6 => ?_) (fun c6 => ?_)
      · rw [if_pos c6] at hf
        cases hf
        exact hq_vret C I (by decide) (by decide) d_VS_init_182
      · rw [if_neg c6] at hf
        refine hq_aload_n C.1.1 C.1.2.1 d_VS_init_36 rfl (lv_at hl 1 rfl) ?_
        refine lv_iload C.1.1 C.1.2.1 d_VS_init_37 (lv_at hl 6 rfl) ?_
        replace hf := Option.bind_eq_some_iff.mp hf
        obtain ⟨x7, e8, hf⟩ := hf
        refine hq_cald C I (t := 2) rfl e8 d_VS_init_39 ?_
        refine lv_istore (i := 8) (lv' := [(8, .int x7), (0, va_rf (some t0)), (1, va_rf y1), (2, .int y2), (3, .int y3), (4, .int y4), (5, .long y5), (7, .int y7)]) C.1.1 C.1.2.1 d_VS_init_40 hl (by decide) (by first | rfl | simp [hq_cat, hq_catI, hq_catL]) (fun ls hl => ?_)
        refine lv_iload C.1.1 C.1.2.1 d_VS_init_42 (lv_at hl 7 rfl) ?_
        refine lv_iload_n C.1.1 C.1.2.1 d_VS_init_44 rfl (lv_at hl 3 rfl) ?_
        refine lv_icmp_ne (tgt := 53) C.1.1 C.1.2.1 d_VS_init_45 (by decide) (fun c9 => ?_) (fun c9 => ?_)
        · rw [if_neg c9] at hf
          refine hq_aload_n C.1.1 C.1.2.1 d_VS_init_53 rfl (lv_at hl 2 rfl) ?_
          refine lv_iload C.1.1 C.1.2.1 d_VS_init_54 (lv_at hl 7 rfl) ?_
          refine lv_iconst (v := 1) C.1.1 C.1.2.1 d_VS_init_56 (by decide) ?_
          refine lv_isub C.1.1 C.1.2.1 d_VS_init_57 ?_
          replace hf := Option.bind_eq_some_iff.mp hf
          obtain ⟨x10, e11, hf⟩ := hf
          refine hq_cald C I (t := 2) rfl e11 d_VS_init_58 ?_
          refine W.widen (k := 1) (n := 12) (by decide) (by decide) ?_
          exact k_VS_init_L59 C _ ih t0 y1 y2 y3 y4 y5 y7 x7 x10 h _ hf _ _ I ls (lv_sub hl [1, 2, 3, 4, 5, 6, 7, 0] rfl)
        · rw [if_pos c9] at hf
          refine lv_bipush (v := 46) C.1.1 C.1.2.1 d_VS_init_48 (by decide) ?_
          refine lv_goto (tgt := 59) C.1.1 C.1.2.1 d_VS_init_50 (by decide) ?_
          refine W.widen (k := 1) (n := 12) (by decide) (by decide) ?_
          exact k_VS_init_L59 C _ ih t0 y1 y2 y3 y4 y5 y7 x7 (46 : Int32) h _ hf _ _ I ls (lv_sub hl [1, 2, 3, 4, 5, 6, 7, 0] rfl)
set_option maxRecDepth 100000 in
set_option maxHeartbeats 4000000 in
theorem k_VS_init (l : Launch) (G : hp_G) (B : Nat) (h : hp_H) (t0 : Nat) (p1 : Option Nat) (p2 : Int32) (p3 : Int32) (out : hp_H) (hf : f_VS_init h t0 p1 p2 p3 = some out) : Met l y_VS_init (.code y_VS_init b_VS_init 10 ((Option.none : Option Jvm.ClassFile.FieldType)) :: gt) ({ frames := 1, cells := 1, slots := 12, locals := 20 }) (hq_Pc G vwCl aTs B h [.ref t0, va_rf p1, .int p2, .int p3]) (hq_Q G vwCl B none out) 1 12 (fun q => B ≤ q) := by
  refine hq_enter (nL := 10) (by decide +kernel) (by simp [lg_sl, hq_cat, hq_catI, hq_catL, hq_catR]) ?_
  intro p e s m args below meth c C I ls hl
  have hl : lv_has ls 10 [(0, va_rf (some t0)), (1, va_rf p1), (2, .int p2), (3, .int p3)] := by simp [lv_args, hq_cat, hq_catI, hq_catL, hq_catR] at hl; exact hl
  unfold f_VS_init at hf
  refine hq_aload_n C.1.1 C.1.2.1 d_VS_init_0 rfl (lv_at hl 0 rfl) ?_
  refine W.objInit C.1.1 C.1.2.1 C.1.2.2.2.1 (C.1.2.2.2.2 _ g192) (C.1.2.2.2.2 _ g53) (C.1.2.2.2.2 _ g54) rfl (by rw [C.1.2.2.1]; exact hl.1) rfl d_VS_init_1 (Nat.le_of_ble_eq_true rfl) (Nat.le_of_ble_eq_true rfl) ?_
  refine W.eq (g2 := F0 m 4 ls []) rfl ?_
  refine hq_aload_n C.1.1 C.1.2.1 d_VS_init_4 rfl (lv_at hl 0 rfl) ?_
  refine lv_bipush (v := 12) C.1.1 C.1.2.1 d_VS_init_5 (by decide) ?_
  refine hq_newa C I (t := 1) (x := .inr (.inl (fun _ => 0))) rfl rfl g204 (mx := 12) (fun cA => rfl) (by decide) (by decide) (Nat.le_refl _) (by decide) (Nat.le_of_ble_eq_true rfl) (Nat.le_of_ble_eq_true rfl) d_VS_init_7 (fun H I => ?_)
  refine W.widen (k := 1) (n := 12) (by decide) (by decide) ?_
  replace hf := Option.bind_eq_some_iff.mp hf
  obtain ⟨h1, e2, hf⟩ := hf
  rw [Option.some.inj e2] at I
  replace hf := Option.bind_eq_some_iff.mp hf
  obtain ⟨h3, e4, hf⟩ := hf
  refine hq_putF C I F_VS_9 (fun r hr => by cases hr; rfl) e4 (hq_rfa _ _).1 (hq_rfa _ _).2 d_VS_init_9 (fun H locs I => ?_)
  refine lv_iconst (v := -1) C.1.1 C.1.2.1 d_VS_init_12 (by decide) ?_
  refine lv_istore (i := 4) (lv' := [(4, .int (-1 : Int32)), (0, va_rf (some t0)), (1, va_rf p1), (2, .int p2), (3, .int p3)]) C.1.1 C.1.2.1 d_VS_init_13 hl (by decide) (by first | rfl | simp [hq_cat, hq_catI, hq_catL]) (fun ls hl => ?_)
  refine lv_lconst (v := 0) C.1.1 C.1.2.1 d_VS_init_15 (by decide) ?_
  refine lv_lstore (i := 5) (lv' := [(5, .long (0 : Int64)), (4, .int (-1 : Int32)), (0, va_rf (some t0)), (1, va_rf p1), (2, .int p2), (3, .int p3)]) C.1.1 C.1.2.1 d_VS_init_16 hl (by decide) (by first | rfl | simp [hq_cat, hq_catI, hq_catL]) (fun ls hl => ?_)
  refine lv_iload_n C.1.1 C.1.2.1 d_VS_init_18 rfl (lv_at hl 4 rfl) ?_
  refine lv_istore (i := 7) (lv' := [(7, .int p2), (5, .long (0 : Int64)), (4, .int (-1 : Int32)), (0, va_rf (some t0)), (1, va_rf p1), (2, .int p2), (3, .int p3)]) C.1.1 C.1.2.1 d_VS_init_19 hl (by decide) (by first | rfl | simp [hq_cat, hq_catI, hq_catL]) (fun ls hl => ?_)
  refine W.widen (k := 1) (n := 12) (by decide) (by decide) ?_
  exact k_VS_init_L21 C FU t0 p1 p2 p3 (-1 : Int32) (0 : Int64) p2 h3 _ hf _ _ I ls (lv_sub hl [3, 4, 5, 6, 2, 1, 0] rfl)
