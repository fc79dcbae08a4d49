set_option maxRecDepth 100000 in
set_option maxHeartbeats 4000000 in
theorem k_MD_init (l : Launch) (G : hp_G) (B : Nat) (h : hp_H) (t0 : Nat) (out : hp_H) (hf : f_MD_init h t0 = some out) : Met l y_MD_init (.code y_MD_init b_MD_init 1 ((Option.none : Option Jvm.ClassFile.FieldType)) :: gt) ({ frames := 1, cells := 20, slots := 9240, locals := 20 }) (hq_Pc G vwCl aTs B h [.ref t0]) (hq_Q G vwCl B none out) 20 9240 (fun q => B ≤ q) := by
  refine hq_enter (nL := 1) (by decide +kernel) (Nat.le_of_ble_eq_true rfl) ?_
  intro p e s m args below meth c C I ls hl
  have hl : lv_has ls 1 [(0, va_rf (some t0))] := hl
  unfold f_MD_init at hf
  refine hq_aload_n C.1.1 C.1.2.1 d_MD_init_0 rfl (lv_at hl 0 rfl) ?_
  refine W.objInit C.1.1 C.1.2.1 C.1.2.2.2.1 (C.1.2.2.2.2 _ g485) (C.1.2.2.2.2 _ g53) (C.1.2.2.2.2 _ g54) rfl (by rw [C.1.2.2.1]; exact hl.1) rfl d_MD_init_1 (Nat.le_of_ble_eq_true rfl) (Nat.le_of_ble_eq_true rfl) ?_
  refine W.eq (g2 := F0 m 4 ls []) rfl ?_
  refine hq_aload_n C.1.1 C.1.2.1 d_MD_init_4 rfl (lv_at hl 0 rfl) ?_
  refine lv_iconst (v := 0) C.1.1 C.1.2.1 d_MD_init_5 (by decide) ?_
  replace hf := Option.bind_eq_some_iff.mp hf
  obtain ⟨h1, e2, hf⟩ := hf
  refine hq_put C I F_MD_7 e2 rfl rfl d_MD_init_6 (fun H locs I => ?_)
  refine hq_aload_n C.1.1 C.1.2.1 d_MD_init_9 rfl (lv_at hl 0 rfl) ?_
  refine lv_bipush (v := 40) C.1.1 C.1.2.1 d_MD_init_10 (by decide) ?_
  refine hq_newa C I (t := 0) (x := .inl (fun _ => 0)) rfl rfl g104 (mx := 40) (fun cA => rfl) (by decide) (by decide) (Nat.le_refl _) (by decide) (Nat.le_of_ble_eq_true rfl) (Nat.le_of_ble_eq_true rfl) d_MD_init_12 (fun H I => ?_)
  refine W.widen (k := 1) (n := 40) (by decide) (by decide) ?_
  replace hf := Option.bind_eq_some_iff.mp hf
  obtain ⟨h3, e4, hf⟩ := hf
  rw [Option.some.inj e4] at I
  replace hf := Option.bind_eq_some_iff.mp hf
  obtain ⟨h5, e6, hf⟩ := hf
  refine hq_putF C I F_MD_13 (fun r hr => by cases hr; rfl) e6 (hq_rfa _ _).1 (hq_rfa _ _).2 d_MD_init_14 (fun H locs I => ?_)
  refine hq_aload_n C.1.1 C.1.2.1 d_MD_init_17 rfl (lv_at hl 0 rfl) ?_
  refine lv_iconst (v := 0) C.1.1 C.1.2.1 d_MD_init_18 (by decide) ?_
  replace hf := Option.bind_eq_some_iff.mp hf
  obtain ⟨h7, e8, hf⟩ := hf
  refine hq_put C I F_MD_17 e8 rfl rfl d_MD_init_19 (fun H locs I => ?_)
  refine hq_aload_n C.1.1 C.1.2.1 d_MD_init_22 rfl (lv_at hl 0 rfl) ?_
  refine lv_bipush (v := 40) C.1.1 C.1.2.1 d_MD_init_23 (by decide) ?_
  refine hq_newa C I (t := 0) (x := .inl (fun _ => 0)) rfl rfl g104 (mx := 40) (fun cA => rfl) (by decide) (by decide) (Nat.le_refl _) (by decide) (Nat.le_of_ble_eq_true rfl) (Nat.le_of_ble_eq_true rfl) d_MD_init_25 (fun H I => ?_)
  refine W.widen (k := 2) (n := 80) (by decide) (by decide) ?_
  replace hf := Option.bind_eq_some_iff.mp hf
  obtain ⟨h9, e10, hf⟩ := hf
  rw [Option.some.inj e10] at I
  replace hf := Option.bind_eq_some_iff.mp hf
  obtain ⟨h11, e12, hf⟩ := hf
  refine hq_putF C I F_MD_20 (fun r hr => by cases hr; rfl) e12 (hq_rfa _ _).1 (hq_rfa _ _).2 d_MD_init_27 (fun H locs I => ?_)
  refine hq_aload_n C.1.1 C.1.2.1 d_MD_init_30 rfl (lv_at hl 0 rfl) ?_
  refine lv_iconst (v := 0) C.1.1 C.1.2.1 d_MD_init_31 (by decide) ?_
  replace hf := Option.bind_eq_some_iff.mp hf
  obtain ⟨h13, e14, hf⟩ := hf
  refine hq_put C I F_MD_23 e14 rfl rfl d_MD_init_32 (fun H locs I => ?_)
  refine hq_aload_n C.1.1 C.1.2.1 d_MD_init_35 rfl (lv_at hl 0 rfl) ?_
  refine lv_bipush (v := 20) C.1.1 C.1.2.1 d_MD_init_36 (by decide) ?_
  refine hq_newa C I (t := 0) (x := .inl (fun _ => 0)) rfl rfl g104 (mx := 20) (fun cA => rfl) (by decide) (by decide) (Nat.le_refl _) (by decide) (Nat.le_of_ble_eq_true rfl) (Nat.le_of_ble_eq_true rfl) d_MD_init_38 (fun H I => ?_)
  refine W.widen (k := 3) (n := 100) (by decide) (by decide) ?_
  replace hf := Option.bind_eq_some_iff.mp hf
  obtain ⟨h15, e16, hf⟩ := hf
  rw [Option.some.inj e16] at I
  replace hf := Option.bind_eq_some_iff.mp hf
  obtain ⟨h17, e18, hf⟩ := hf
  refine hq_putF C I F_MD_26 (fun r hr => by cases hr; rfl) e18 (hq_rfa _ _).1 (hq_rfa _ _).2 d_MD_init_40 (fun H locs I => ?_)
  refine hq_aload_n C.1.1 C.1.2.1 d_MD_init_43 rfl (lv_at hl 0 rfl) ?_
  refine lv_sipush (v := 420) C.1.1 C.1.2.1 d_MD_init_44 (by decide) ?_
  refine hq_newa C I (t := 0) (x := .inl (fun _ => 0)) rfl rfl g104 (mx := 420) (fun cA => rfl) (by decide) (by decide) (Nat.le_refl _) (by decide) (Nat.le_of_ble_eq_true rfl) (Nat.le_of_ble_eq_true rfl) d_MD_init_47 (fun H I => ?_)
  refine W.widen (k := 4) (n := 520) (by decide) (by decide) ?_
  replace hf := Option.bind_eq_some_iff.mp hf
  obtain ⟨h19, e20, hf⟩ := hf
  rw [Option.some.inj e20] at I
  replace hf := Option.bind_eq_some_iff.mp hf
  obtain ⟨h21, e22, hf⟩ := hf
  refine hq_putF C I F_MD_29 (fun r hr => by cases hr; rfl) e22 (hq_rfa _ _).1 (hq_rfa _ _).2 d_MD_init_49 (fun H locs I => ?_)
  refine hq_aload_n C.1.1 C.1.2.1 d_MD_init_52 rfl (lv_at hl 0 rfl) ?_
  refine lv_bipush (v := 20) C.1.1 C.1.2.1 d_MD_init_53 (by decide) ?_
  refine hq_newa C I (t := 0) (x := .inl (fun _ => 0)) rfl rfl g104 (mx := 20) (fun cA => rfl) (by decide) (by decide) (Nat.le_refl _) (by decide) (Nat.le_of_ble_eq_true rfl) (Nat.le_of_ble_eq_true rfl) d_MD_init_55 (fun H I => ?_)
  refine W.widen (k := 5) (n := 540) (by decide) (by decide) ?_
  replace hf := Option.bind_eq_some_iff.mp hf
  obtain ⟨h23, e24, hf⟩ := hf
  rw [Option.some.inj e24] at I
  replace hf := Option.bind_eq_some_iff.mp hf
  obtain ⟨h25, e26, hf⟩ := hf
  refine hq_putF C I F_MD_32 (fun r hr => by cases hr; rfl) e26 (hq_rfa _ _).1 (hq_rfa _ _).2 d_MD_init_57 (fun H locs I => ?_)
  refine hq_aload_n C.1.1 C.1.2.1 d_MD_init_60 rfl (lv_at hl 0 rfl) ?_
  refine lv_bipush (v := 20) C.1.1 C.1.2.1 d_MD_init_61 (by decide) ?_
  refine hq_newa C I (t := 3) (x := .inl (fun _ => 0)) rfl rfl g574 (mx := 20) (fun cA => rfl) (by decide) (by decide) (Nat.le_refl _) (by decide) (Nat.le_of_ble_eq_true rfl) (Nat.le_of_ble_eq_true rfl) d_MD_init_63 (fun H I => ?_)
  refine W.widen (k := 6) (n := 560) (by decide) (by decide) ?_
  replace hf := Option.bind_eq_some_iff.mp hf
  obtain ⟨h27, e28, hf⟩ := hf
  rw [Option.some.inj e28] at I
  replace hf := Option.bind_eq_some_iff.mp hf
  obtain ⟨h29, e30, hf⟩ := hf
  refine hq_putF C I F_MD_35 (fun r hr => by cases hr; rfl) e30 (hq_rfa _ _).1 (hq_rfa _ _).2 d_MD_init_65 (fun H locs I => ?_)
  refine hq_aload_n C.1.1 C.1.2.1 d_MD_init_68 rfl (lv_at hl 0 rfl) ?_
  refine lv_bipush (v := 20) C.1.1 C.1.2.1 d_MD_init_69 (by decide) ?_
  refine hq_newa C I (t := 0) (x := .inl (fun _ => 0)) rfl rfl g104 (mx := 20) (fun cA => rfl) (by decide) (by decide) (Nat.le_refl _) (by decide) (Nat.le_of_ble_eq_true rfl) (Nat.le_of_ble_eq_true rfl) d_MD_init_71 (fun H I => ?_)
  refine W.widen (k := 7) (n := 580) (by decide) (by decide) ?_
  replace hf := Option.bind_eq_some_iff.mp hf
  obtain ⟨h31, e32, hf⟩ := hf
  rw [Option.some.inj e32] at I
  replace hf := Option.bind_eq_some_iff.mp hf
  obtain ⟨h33, e34, hf⟩ := hf
  refine hq_putF C I F_MD_39 (fun r hr => by cases hr; rfl) e34 (hq_rfa _ _).1 (hq_rfa _ _).2 d_MD_init_73 (fun H locs I => ?_)
  refine hq_aload_n C.1.1 C.1.2.1 d_MD_init_76 rfl (lv_at hl 0 rfl) ?_
  refine lv_bipush (v := 20) C.1.1 C.1.2.1 d_MD_init_77 (by decide) ?_
  refine hq_newa C I (t := 0) (x := .inl (fun _ => 0)) rfl rfl g104 (mx := 20) (fun cA => rfl) (by decide) (by decide) (Nat.le_refl _) (by decide) (Nat.le_of_ble_eq_true rfl) (Nat.le_of_ble_eq_true rfl) d_MD_init_79 (fun H I => ?_)
  refine W.widen (k := 8) (n := 600) (by decide) (by decide) ?_
  replace hf := Option.bind_eq_some_iff.mp hf
  obtain ⟨h35, e36, hf⟩ := hf
  rw [Option.some.inj e36] at I
  replace hf := Option.bind_eq_some_iff.mp hf
  obtain ⟨h37, e38, hf⟩ := hf
  refine hq_putF C I F_MD_42 (fun r hr => by cases hr; rfl) e38 (hq_rfa _ _).1 (hq_rfa _ _).2 d_MD_init_81 (fun H locs I => ?_)
  refine hq_aload_n C.1.1 C.1.2.1 d_MD_init_84 rfl (lv_at hl 0 rfl) ?_
  refine lv_bipush (v := 120) C.1.1 C.1.2.1 d_MD_init_85 (by decide) ?_
  refine hq_newa C I (t := 3) (x := .inl (fun _ => 0)) rfl rfl g574 (mx := 120) (fun cA => rfl) (by decide) (by decide) (Nat.le_refl _) (by decide) (Nat.le_of_ble_eq_true rfl) (Nat.le_of_ble_eq_true rfl) d_MD_init_87 (fun H I => ?_)
  refine W.widen (k := 9) (n := 720) (by decide) (by decide) ?_
  replace hf := Option.bind_eq_some_iff.mp hf
  obtain ⟨h39, e40, hf⟩ := hf
  rw [Option.some.inj e40] at I
  replace hf := Option.bind_eq_some_iff.mp hf
  obtain ⟨h41, e42, hf⟩ := hf
  refine hq_putF C I F_MD_45 (fun r hr => by cases hr; rfl) e42 (hq_rfa _ _).1 (hq_rfa _ _).2 d_MD_init_89 (fun H locs I => ?_)
  refine hq_aload_n C.1.1 C.1.2.1 d_MD_init_92 rfl (lv_at hl 0 rfl) ?_
  refine lv_bipush (v := 120) C.1.1 C.1.2.1 d_MD_init_93 (by decide) ?_
  refine hq_newa C I (t := 0) (x := .inl (fun _ => 0)) rfl rfl g104 (mx := 120) (fun cA => rfl) (by decide) (by decide) (Nat.le_refl _) (by decide) (Nat.le_of_ble_eq_true rfl) (Nat.le_of_ble_eq_true rfl) d_MD_init_95 (fun H I => ?_)
  refine W.widen (k := 10) (n := 840) (by decide) (by decide) ?_
  replace hf := Option.bind_eq_some_iff.mp hf
  obtain ⟨h43, e44, hf⟩ := hf
  rw [Option.some.inj e44] at I
  replace hf := Option.bind_eq_some_iff.mp hf
  obtain ⟨h45, e46, hf⟩ := hf
  refine hq_putF C I F_MD_48 (fun r hr => by cases hr; rfl) e46 (hq_rfa _ _).1 (hq_rfa _ _).2 d_MD_init_97 (fun H locs I => ?_)
  refine hq_aload_n C.1.1 C.1.2.1 d_MD_init_100 rfl (lv_at hl 0 rfl) ?_
  refine lv_sipush (v := 4800) C.1.1 C.1.2.1 d_MD_init_101 (by decide) ?_
  refine hq_newa C I (t := 0) (x := .inl (fun _ => 0)) rfl rfl g104 (mx := 4800) (fun cA => rfl) (by decide) (by decide) (Nat.le_refl _) (by decide) (Nat.le_of_ble_eq_true rfl) (Nat.le_of_ble_eq_true rfl) d_MD_init_104 (fun H I => ?_)
  refine W.widen (k := 11) (n := 5640) (by decide) (by decide) ?_
  replace hf := Option.bind_eq_some_iff.mp hf
  obtain ⟨h47, e48, hf⟩ := hf
  rw [Option.some.inj e48] at I
  replace hf := Option.bind_eq_some_iff.mp hf
  obtain ⟨h49, e50, hf⟩ := hf
  refine hq_putF C I F_MD_51 (fun r hr => by cases hr; rfl) e50 (hq_rfa _ _).1 (hq_rfa _ _).2 d_MD_init_106 (fun H locs I => ?_)
  refine hq_aload_n C.1.1 C.1.2.1 d_MD_init_109 rfl (lv_at hl 0 rfl) ?_
  refine lv_bipush (v := 120) C.1.1 C.1.2.1 d_MD_init_110 (by decide) ?_
  refine hq_newa C I (t := 0) (x := .inl (fun _ => 0)) rfl rfl g104 (mx := 120) (fun cA => rfl) (by decide) (by decide) (Nat.le_refl _) (by decide) (Nat.le_of_ble_eq_true rfl) (Nat.le_of_ble_eq_true rfl) d_MD_init_112 (fun H I => ?_)
  refine W.widen (k := 12) (n := 5760) (by decide) (by decide) ?_
  replace hf := Option.bind_eq_some_iff.mp hf
  obtain ⟨h51, e52, hf⟩ := hf
  rw [Option.some.inj e52] at I
  replace hf := Option.bind_eq_some_iff.mp hf
  obtain ⟨h53, e54, hf⟩ := hf
  refine hq_putF C I F_MD_54 (fun r hr => by cases hr; rfl) e54 (hq_rfa _ _).1 (hq_rfa _ _).2 d_MD_init_114 (fun H locs I => ?_)
  refine hq_aload_n C.1.1 C.1.2.1 d_MD_init_117 rfl (lv_at hl 0 rfl) ?_
  refine lv_sipush (v := 360) C.1.1 C.1.2.1 d_MD_init_118 (by decide) ?_
  refine hq_newa C I (t := 0) (x := .inl (fun _ => 0)) rfl rfl g104 (mx := 360) (fun cA => rfl) (by decide) (by decide) (Nat.le_refl _) (by decide) (Nat.le_of_ble_eq_true rfl) (Nat.le_of_ble_eq_true rfl) d_MD_init_121 (fun H I => ?_)
  refine W.widen (k := 13) (n := 6120) (by decide) (by decide) ?_
  replace hf := Option.bind_eq_some_iff.mp hf
  obtain ⟨h55, e56, hf⟩ := hf
  rw [Option.some.inj e56] at I
  replace hf := Option.bind_eq_some_iff.mp hf
  obtain ⟨h57, e58, hf⟩ := hf
  refine hq_putF C I F_MD_57 (fun r hr => by cases hr; rfl) e58 (hq_rfa _ _).1 (hq_rfa _ _).2 d_MD_init_123 (fun H locs I => ?_)
  refine hq_aload_n C.1.1 C.1.2.1 d_MD_init_126 rfl (lv_at hl 0 rfl) ?_
  refine lv_sipush (v := 2880) C.1.1 C.1.2.1 d_MD_init_127 (by decide) ?_
  refine hq_newa C I (t := 0) (x := .inl (fun _ => 0)) rfl rfl g104 (mx := 2880) (fun cA => rfl) (by decide) (by decide) (Nat.le_refl _) (by decide) (Nat.le_of_ble_eq_true rfl) (Nat.le_of_ble_eq_true rfl) d_MD_init_130 (fun H I => ?_)
  refine W.widen (k := 14) (n := 9000) (by decide) (by decide) ?_
  replace hf := Option.bind_eq_some_iff.mp hf
  obtain ⟨h59, e60, hf⟩ := hf
  rw [Option.some.inj e60] at I
  replace hf := Option.bind_eq_some_iff.mp hf
  obtain ⟨h61, e62, hf⟩ := hf
  refine hq_putF C I F_MD_60 (fun r hr => by cases hr; rfl) e62 (hq_rfa _ _).1 (hq_rfa _ _).2 d_MD_init_132 (fun H locs I => ?_)
  refine hq_aload_n C.1.1 C.1.2.1 d_MD_init_135 rfl (lv_at hl 0 rfl) ?_
  refine lv_iconst (v := -1) C.1.1 C.1.2.1 d_MD_init_136 (by decide) ?_
  replace hf := Option.bind_eq_some_iff.mp hf
  obtain ⟨h63, e64, hf⟩ := hf
  refine hq_put C I F_MD_63 e64 rfl rfl d_MD_init_137 (fun H locs I => ?_)
  refine hq_aload_n C.1.1 C.1.2.1 d_MD_init_140 rfl (lv_at hl 0 rfl) ?_
  refine lv_iconst (v := 0) C.1.1 C.1.2.1 d_MD_init_141 (by decide) ?_
  replace hf := Option.bind_eq_some_iff.mp hf
  obtain ⟨h65, e66, hf⟩ := hf
  refine hq_put C I F_MD_66 e66 rfl rfl d_MD_init_142 (fun H locs I => ?_)
  refine hq_aload_n C.1.1 C.1.2.1 d_MD_init_145 rfl (lv_at hl 0 rfl) ?_
  refine lv_iconst (v := 0) C.1.1 C.1.2.1 d_MD_init_146 (by decide) ?_
  replace hf := Option.bind_eq_some_iff.mp hf
  obtain ⟨h67, e68, hf⟩ := hf
  refine hq_put C I F_MD_69 e68 rfl rfl d_MD_init_147 (fun H locs I => ?_)
  refine hq_aload_n C.1.1 C.1.2.1 d_MD_init_150 rfl (lv_at hl 0 rfl) ?_
  refine lv_bipush (v := 40) C.1.1 C.1.2.1 d_MD_init_151 (by decide) ?_
  refine hq_newa C I (t := 0) (x := .inl (fun _ => 0)) rfl rfl g104 (mx := 40) (fun cA => rfl) (by decide) (by decide) (Nat.le_refl _) (by decide) (Nat.le_of_ble_eq_true rfl) (Nat.le_of_ble_eq_true rfl) d_MD_init_153 (fun H I => ?_)
  refine W.widen (k := 15) (n := 9040) (by decide) (by decide) ?_
  replace hf := Option.bind_eq_some_iff.mp hf
  obtain ⟨h69, e70, hf⟩ := hf
  rw [Option.some.inj e70] at I
  replace hf := Option.bind_eq_some_iff.mp hf
  obtain ⟨h71, e72, hf⟩ := hf
  refine hq_putF C I F_MD_72 (fun r hr => by cases hr; rfl) e72 (hq_rfa _ _).1 (hq_rfa _ _).2 d_MD_init_155 (fun H locs I => ?_)
  refine hq_aload_n C.1.1 C.1.2.1 d_MD_init_158 rfl (lv_at hl 0 rfl) ?_
  refine lv_bipush (v := 40) C.1.1 C.1.2.1 d_MD_init_159 (by decide) ?_
  refine hq_newa C I (t := 0) (x := .inl (fun _ => 0)) rfl rfl g104 (mx := 40) (fun cA => rfl) (by decide) (by decide) (Nat.le_refl _) (by decide) (Nat.le_of_ble_eq_true rfl) (Nat.le_of_ble_eq_true rfl) d_MD_init_161 (fun H I => ?_)
  refine W.widen (k := 16) (n := 9080) (by decide) (by decide) ?_
  replace hf := Option.bind_eq_some_iff.mp hf
  obtain ⟨h73, e74, hf⟩ := hf
  rw [Option.some.inj e74] at I
  replace hf := Option.bind_eq_some_iff.mp hf
  obtain ⟨h75, e76, hf⟩ := hf
  refine hq_putF C I F_MD_75 (fun r hr => by cases hr; rfl) e76 (hq_rfa _ _).1 (hq_rfa _ _).2 d_MD_init_163 (fun H locs I => ?_)
  refine hq_aload_n C.1.1 C.1.2.1 d_MD_init_166 rfl (lv_at hl 0 rfl) ?_
  refine lv_bipush (v := 40) C.1.1 C.1.2.1 d_MD_init_167 (by decide) ?_
  refine hq_newa C I (t := 0) (x := .inl (fun _ => 0)) rfl rfl g104 (mx := 40) (fun cA => rfl) (by decide) (by decide) (Nat.le_refl _) (by decide) (Nat.le_of_ble_eq_true rfl) (Nat.le_of_ble_eq_true rfl) d_MD_init_169 (fun H I => ?_)
  refine W.widen (k := 17) (n := 9120) (by decide) (by decide) ?_
  replace hf := Option.bind_eq_some_iff.mp hf
  obtain ⟨h77, e78, hf⟩ := hf
  rw [Option.some.inj e78] at I
  replace hf := Option.bind_eq_some_iff.mp hf
  obtain ⟨h79, e80, hf⟩ := hf
  refine hq_putF C I F_MD_78 (fun r hr => by cases hr; rfl) e80 (hq_rfa _ _).1 (hq_rfa _ _).2 d_MD_init_171 (fun H locs I => ?_)
  refine hq_aload_n C.1.1 C.1.2.1 d_MD_init_174 rfl (lv_at hl 0 rfl) ?_
  refine lv_bipush (v := 40) C.1.1 C.1.2.1 d_MD_init_175 (by decide) ?_
  refine hq_newa C I (t := 0) (x := .inl (fun _ => 0)) rfl rfl g104 (mx := 40) (fun cA => rfl) (by decide) (by decide) (Nat.le_refl _) (by decide) (Nat.le_of_ble_eq_true rfl) (Nat.le_of_ble_eq_true rfl) d_MD_init_177 (fun H I => ?_)
  refine W.widen (k := 18) (n := 9160) (by decide) (by decide) ?_
  replace hf := Option.bind_eq_some_iff.mp hf
  obtain ⟨h81, e82, hf⟩ := hf
  rw [Option.some.inj e82] at I
  replace hf := Option.bind_eq_some_iff.mp hf
  obtain ⟨h83, e84, hf⟩ := hf
  refine hq_putF C I F_MD_81 (fun r hr => by cases hr; rfl) e84 (hq_rfa _ _).1 (hq_rfa _ _).2 d_MD_init_179 (fun H locs I => ?_)
  refine hq_aload_n C.1.1 C.1.2.1 d_MD_init_182 rfl (lv_at hl 0 rfl) ?_
  refine lv_bipush (v := 40) C.1.1 C.1.2.1 d_MD_init_183 (by decide) ?_
  refine hq_newa C I (t := 0) (x := .inl (fun _ => 0)) rfl rfl g104 (mx := 40) (fun cA => rfl) (by decide) (by decide) (Nat.le_refl _) (by decide) (Nat.le_of_ble_eq_true rfl) (Nat.le_of_ble_eq_true rfl) d_MD_init_185 (fun H I => ?_)
  refine W.widen (k := 19) (n := 9200) (by decide) (by decide) ?_
  replace hf := Option.bind_eq_some_iff.mp hf
  obtain ⟨h85, e86, hf⟩ := hf
  rw [Option.some.inj e86] at I
  replace hf := Option.bind_eq_some_iff.mp hf
  obtain ⟨h87, e88, hf⟩ := hf
  refine hq_putF C I F_MD_84 (fun r hr => by cases hr; rfl) e88 (hq_rfa _ _).1 (hq_rfa _ _).2 d_MD_init_187 (fun H locs I => ?_)
  refine hq_aload_n C.1.1 C.1.2.1 d_MD_init_190 rfl (lv_at hl 0 rfl) ?_
  refine lv_iconst (v := 0) C.1.1 C.1.2.1 d_MD_init_191 (by decide) ?_
  replace hf := Option.bind_eq_some_iff.mp hf
  obtain ⟨h89, e90, hf⟩ := hf
  refine hq_put C I F_MD_87 e90 rfl rfl d_MD_init_192 (fun H locs I => ?_)
  refine hq_aload_n C.1.1 C.1.2.1 d_MD_init_195 rfl (lv_at hl 0 rfl) ?_
  refine lv_bipush (v := 40) C.1.1 C.1.2.1 d_MD_init_196 (by decide) ?_
  refine hq_newa C I (t := 0) (x := .inl (fun _ => 0)) rfl rfl g104 (mx := 40) (fun cA => rfl) (by decide) (by decide) (Nat.le_refl _) (by decide) (Nat.le_of_ble_eq_true rfl) (Nat.le_of_ble_eq_true rfl) d_MD_init_198 (fun H I => ?_)
  refine W.widen (k := 20) (n := 9240) (by decide) (by decide) ?_
  replace hf := Option.bind_eq_some_iff.mp hf
  obtain ⟨h91, e92, hf⟩ := hf
  rw [Option.some.inj e92] at I
  replace hf := Option.bind_eq_some_iff.mp hf
  obtain ⟨h93, e94, hf⟩ := hf
  refine hq_putF C I F_MD_90 (fun r hr => by cases hr; rfl) e94 (hq_rfa _ _).1 (hq_rfa _ _).2 d_MD_init_200 (fun H locs I => ?_)
  refine hq_aload_n C.1.1 C.1.2.1 d_MD_init_203 rfl (lv_at hl 0 rfl) ?_
  refine lv_iconst (v := 0) C.1.1 C.1.2.1 d_MD_init_204 (by decide) ?_
  replace hf := Option.bind_eq_some_iff.mp hf
  obtain ⟨h95, e96, hf⟩ := hf
  refine hq_put C I F_MD_93 e96 rfl rfl d_MD_init_205 (fun H locs I => ?_)
  refine hq_aload_n C.1.1 C.1.2.1 d_MD_init_208 rfl (lv_at hl 0 rfl) ?_
  refine lv_iconst (v := 0) C.1.1 C.1.2.1 d_MD_init_209 (by decide) ?_
  replace hf := Option.bind_eq_some_iff.mp hf
  obtain ⟨h97, e98, hf⟩ := hf
  refine hq_put C I F_MD_96 e98 rfl rfl d_MD_init_210 (fun H locs I => ?_)
  cases hf
  exact hq_vret C I (by decide) (by decide) d_MD_init_213
set_option maxRecDepth 100000 in
set_option maxHeartbeats 4000000 in
theorem k_MD_type (l : Launch) (G : hp_G) (B : Nat) (h : hp_H) (t0 : Nat) (p1 : Int32) (out : Int32 × hp_H) (hf : f_MD_type h t0 p1 = some out) : Met l y_MD_type (.code y_MD_type b_MD_type 2 ((Option.some Jvm.ClassFile.FieldType.int)) :: gt) ({ frames := 0, cells := 0, slots := 0, locals := 0 }) (hq_Pc G vwCl aTs B h [.ref t0, .int p1]) (hq_Q G vwCl B (some (.int out.1)) out.2) 0 0 (fun q => B ≤ q) := by
  refine hq_enter (nL := 2) (by decide +kernel) (Nat.le_of_ble_eq_true rfl) ?_
  intro p e s m args below meth c C I ls hl
  have hl : lv_has ls 2 [(0, va_rf (some t0)), (1, .int p1)] := hl
  unfold f_MD_type at hf
  refine lv_iload_n C.1.1 C.1.2.1 d_MD_type_0 rfl (lv_at hl 1 rfl) ?_
  refine lv_if_lt (tgt := 11) C.1.1 C.1.2.1 d_MD_type_1 (by decide) (fun c1 => ?_) (fun c1 => ?_)
  · rw [if_pos c1] at hf
    refine lv_iconst (v := -1) C.1.1 C.1.2.1 d_MD_type_11 (by decide) ?_
    cases hf
    exact hq_iret C I (by decide) (by decide) d_MD_type_12
  · rw [if_neg c1] at hf
    refine lv_iload_n C.1.1 C.1.2.1 d_MD_type_4 rfl (lv_at hl 1 rfl) ?_
    refine lv_sipush (v := 255) C.1.1 C.1.2.1 d_MD_type_5 (by decide) ?_
    refine lv_icmp_le (tgt := 13) C.1.1 C.1.2.1 d_MD_type_8 (by decide) (fun c2 => ?_) (fun c2 => ?_)
    · rw [if_pos c2] at hf
      refine hq_aload_n C.1.1 C.1.2.1 d_MD_type_13 rfl (lv_at hl 0 rfl) ?_
      replace hf := Option.bind_eq_some_iff.mp hf
      obtain ⟨x3, e4, hf⟩ := hf
      refine hq_getI C I F_MD_7 e4 d_MD_type_14 ?_
      refine lv_bipush (v := 40) C.1.1 C.1.2.1 d_MD_type_17 (by decide) ?_
      refine lv_icmp_ne (tgt := 25) C.1.1 C.1.2.1 d_MD_type_19 (by decide) (fun c5 => ?_) (fun c5 => ?_)
      · rw [if_neg c5] at hf
        refine hq_aload_n C.1.1 C.1.2.1 d_MD_type_25 rfl (lv_at hl 0 rfl) ?_
        replace hf := Option.bind_eq_some_iff.mp hf
        obtain ⟨x6, e7, hf⟩ := hf
        refine hq_getR C I F_MD_13 e7 d_MD_type_26 ?_
        refine hq_aload_n C.1.1 C.1.2.1 d_MD_type_29 rfl (lv_at hl 0 rfl) ?_
        replace hf := Option.bind_eq_some_iff.mp hf
        obtain ⟨x8, e9, hf⟩ := hf
        refine hq_getI C I F_MD_7 e9 d_MD_type_30 ?_
        refine lv_iload_n C.1.1 C.1.2.1 d_MD_type_33 rfl (lv_at hl 1 rfl) ?_
        replace hf := Option.bind_eq_some_iff.mp hf
        obtain ⟨h10, e11, hf⟩ := hf
        refine hq_iast C I (t := 0) rfl e11 d_MD_type_34 (fun H locs I => ?_)
        refine hq_aload_n C.1.1 C.1.2.1 d_MD_type_35 rfl (lv_at hl 0 rfl) ?_
        refine lv_dup C.1.1 C.1.2.1 d_MD_type_36 (hq_cat _) ?_
        replace hf := Option.bind_eq_some_iff.mp hf
        obtain ⟨x12, e13, hf⟩ := hf
        refine hq_getI C I F_MD_7 e13 d_MD_type_37 ?_
        refine lv_iconst (v := 1) C.1.1 C.1.2.1 d_MD_type_40 (by decide) ?_
        refine lv_iadd C.1.1 C.1.2.1 d_MD_type_41 ?_
        replace hf := Option.bind_eq_some_iff.mp hf
        obtain ⟨h14, e15, hf⟩ := hf
        refine hq_put C I F_MD_7 e15 rfl rfl d_MD_type_42 (fun H locs I => ?_)
        refine hq_aload_n C.1.1 C.1.2.1 d_MD_type_45 rfl (lv_at hl 0 rfl) ?_
        replace hf := Option.bind_eq_some_iff.mp hf
        obtain ⟨x16, e17, hf⟩ := hf
        refine hq_getI C I F_MD_7 e17 d_MD_type_46 ?_
        cases hf
        exact hq_iret C I (by decide) (by decide) d_MD_type_49
      · rw [if_pos c5] at hf
        refine lv_bipush (v := -2) C.1.1 C.1.2.1 d_MD_type_22 (by decide) ?_
        cases hf
        exact hq_iret C I (by decide) (by decide) d_MD_type_24
    · rw [if_neg c2] at hf
      refine lv_iconst (v := -1) C.1.1 C.1.2.1 d_MD_type_11 (by decide) ?_
      cases hf
      exact hq_iret C I (by decide) (by decide) d_MD_type_12
set_option maxRecDepth 100000 in
set_option maxHeartbeats 4000000 in
theorem k_MD_wipe (l : Launch) (G : hp_G) (B : Nat) (h : hp_H) (t0 : Nat) (out : Int32 × hp_H) (hf : f_MD_wipe h t0 = some out) : Met l y_MD_wipe (.code y_MD_wipe b_MD_wipe 2 ((Option.some Jvm.ClassFile.FieldType.int)) :: gt) ({ frames := 0, cells := 0, slots := 0, locals := 0 }) (hq_Pc G vwCl aTs B h [.ref t0]) (hq_Q G vwCl B (some (.int out.1)) out.2) 0 0 (fun q => B ≤ q) := by
  refine hq_enter (nL := 2) (by decide +kernel) (Nat.le_of_ble_eq_true rfl) ?_
  intro p e s m args below meth c C I ls hl
  have hl : lv_has ls 2 [(0, va_rf (some t0))] := hl
  unfold f_MD_wipe at hf
  refine hq_aload_n C.1.1 C.1.2.1 d_MD_wipe_0 rfl (lv_at hl 0 rfl) ?_
  replace hf := Option.bind_eq_some_iff.mp hf
  obtain ⟨x1, e2, hf⟩ := hf
  refine hq_getI C I F_MD_7 e2 d_MD_wipe_1 ?_
  refine lv_istore_n (i := 1) (lv' := [(1, .int x1), (0, va_rf (some t0))]) C.1.1 C.1.2.1 d_MD_wipe_4 rfl hl (by decide) (by first | rfl | simp [hq_cat, hq_catI, hq_catL]) (fun ls hl => ?_)
  refine hq_aload_n C.1.1 C.1.2.1 d_MD_wipe_5 rfl (lv_at hl 1 rfl) ?_
  refine lv_iconst (v := 0) C.1.1 C.1.2.1 d_MD_wipe_6 (by decide) ?_
  replace hf := Option.bind_eq_some_iff.mp hf
  obtain ⟨h3, e4, hf⟩ := hf
  refine hq_put C I F_MD_7 e4 rfl rfl d_MD_wipe_7 (fun H locs I => ?_)
  refine lv_iload_n C.1.1 C.1.2.1 d_MD_wipe_10 rfl (lv_at hl 0 rfl) ?_
  cases hf
  exact hq_iret C I (by decide) (by decide) d_MD_wipe_11
set_option maxRecDepth 100000 in
set_option maxHeartbeats 4000000 in
theorem k_MD_take_L10 {p : Program} {l : Launch} {e : Env} {s : State} {m : MethodId} {args : Array Value} {below : List Frame} {meth : Method} {c : Code} {G : hp_G} {B : Nat} (C : hq_C p s m args meth c b_MD_take 2 ((Option.none : Option Jvm.ClassFile.FieldType)) "LayeredLauncherModel" "take" gt G vwCl aTs) : ∀ (n : Nat) (t0 : Nat) (y1 : Int32) (h : hp_H) (out : hp_H), f_MD_take_L10 n t0 y1 h = some out → ∀ (H : Heap) (locs : List Loc), hp_I G vwCl B s.heap h H locs → ∀ ls : Array Slot, lv_has ls 2 [(0, va_rf (some t0)), (1, .int y1)] → W p l e ({ frames := 0, cells := 0, slots := 0, locals := 0 }) s m args below meth c H locs 0 0 (MQ below (hq_Q G vwCl B none out) args s 0 0 (fun q => B ≤ q)) (F0 m 10 ls []) := by
  intro n
  induction n with
  | zero => intro t0 y1 h out hf; simp [f_MD_take_L10] at hf
  | succ n ih =>
    intro t0 y1 h out hf H locs I ls hl
    simp only [f_MD_take_L10] at hf
    refine lv_iload_n C.1.1 C.1.2.1 d_MD_take_10 rfl (lv_at hl 1 rfl) ?_
    refine hq_aload_n C.1.1 C.1.2.1 d_MD_take_11 rfl (lv_at hl 0 rfl) ?_
    replace hf := Option.bind_eq_some_iff.mp hf
    obtain ⟨x5, e6, hf⟩ := hf
    refine hq_getI C I F_MD_17 e6 d_MD_take_12 ?_
    refine lv_icmp_ge (tgt := 36) C.1.1 C.1.2.1 d_MD_take_15 (by decide) (fun c7 => ?_) (fun c7 => ?_)
    · rw [if_pos c7] at hf
      refine hq_aload_n C.1.1 C.1.2.1 d_MD_take_36 rfl (lv_at hl 0 rfl) ?_
      refine lv_iconst (v := 0) C.1.1 C.1.2.1 d_MD_take_37 (by decide) ?_
      replace hf := Option.bind_eq_some_iff.mp hf
      obtain ⟨h8, e9, hf⟩ := hf
      refine hq_put C I F_MD_7 e9 rfl rfl d_MD_take_38 (fun H locs I => ?_)
      cases hf
      exact hq_vret C I (by decide) (by decide) d_MD_take_41
    · rw [if_neg c7] at hf
      refine hq_aload_n C.1.1 C.1.2.1 d_MD_take_18 rfl (lv_at hl 0 rfl) ?_
      replace hf := Option.bind_eq_some_iff.mp hf
      obtain ⟨x10, e11, hf⟩ := hf
      refine hq_getR C I F_MD_20 e11 d_MD_take_19 ?_
      refine lv_iload_n C.1.1 C.1.2.1 d_MD_take_22 rfl (lv_at hl 1 rfl) ?_
      refine hq_aload_n C.1.1 C.1.2.1 d_MD_take_23 rfl (lv_at hl 0 rfl) ?_
      replace hf := Option.bind_eq_some_iff.mp hf
      obtain ⟨x12, e13, hf⟩ := hf
      refine hq_getR C I F_MD_13 e13 d_MD_take_24 ?_
      refine lv_iload_n C.1.1 C.1.2.1 d_MD_take_27 rfl (lv_at hl 1 rfl) ?_
      replace hf := Option.bind_eq_some_iff.mp hf
      obtain ⟨x14, e15, hf⟩ := hf
      refine hq_iald C I (t := 0) rfl e15 d_MD_take_28 ?_
      replace hf := Option.bind_eq_some_iff.mp hf
      obtain ⟨h16, e17, hf⟩ := hf
      refine hq_iast C I (t := 0) rfl e17 d_MD_take_29 (fun H locs I => ?_)
      refine lv_iinc (v := (y1 + 1)) (lv' := [(1, .int (y1 + 1)), (0, va_rf (some t0))]) C.1.1 C.1.2.1 d_MD_take_30 hl (k := 1) rfl rfl (by decide) (by first | rfl | simp [hq_cat, hq_catI, hq_catL]) (fun ls hl => ?_)
      refine lv_goto (tgt := 10) C.1.1 C.1.2.1 d_MD_take_33 (by decide) ?_
      refine W.widen (k := 0) (n := 0) (by decide) (by decide) ?_
      exact ih t0 (y1 + 1) h16 _ hf _ _ I ls (lv_sub hl [1, 0] rfl)
set_option maxRecDepth 100000 in
set_option maxHeartbeats 4000000 in
theorem k_MD_take (l : Launch) (G : hp_G) (B : Nat) (h : hp_H) (t0 : Nat) (out : hp_H) (hf : f_MD_take h t0 = some out) : Met l y_MD_take (.code y_MD_take b_MD_take 2 ((Option.none : Option Jvm.ClassFile.FieldType)) :: gt) ({ frames := 0, cells := 0, slots := 0, locals := 0 }) (hq_Pc G vwCl aTs B h [.ref t0]) (hq_Q G vwCl B none out) 0 0 (fun q => B ≤ q) := by
  refine hq_enter (nL := 2) (by decide +kernel) (Nat.le_of_ble_eq_true rfl) ?_
  intro p e s m args below meth c C I ls hl
  have hl : lv_has ls 2 [(0, va_rf (some t0))] := hl
  unfold f_MD_take at hf
  refine hq_aload_n C.1.1 C.1.2.1 d_MD_take_0 rfl (lv_at hl 0 rfl) ?_
  refine hq_aload_n C.1.1 C.1.2.1 d_MD_take_1 rfl (lv_at hl 0 rfl) ?_
  replace hf := Option.bind_eq_some_iff.mp hf
  obtain ⟨x1, e2, hf⟩ := hf
  refine hq_getI C I F_MD_7 e2 d_MD_take_2 ?_
  replace hf := Option.bind_eq_some_iff.mp hf
  obtain ⟨h3, e4, hf⟩ := hf
  refine hq_put C I F_MD_17 e4 rfl rfl d_MD_take_5 (fun H locs I => ?_)
  refine lv_iconst (v := 0) C.1.1 C.1.2.1 d_MD_take_8 (by decide) ?_
  refine lv_istore_n (i := 1) (lv' := [(1, .int (0 : Int32)), (0, va_rf (some t0))]) C.1.1 C.1.2.1 d_MD_take_9 rfl hl (by decide) (by first | rfl | simp [hq_cat, hq_catI, hq_catL]) (fun ls hl => ?_)
  refine W.widen (k := 0) (n := 0) (by decide) (by decide) ?_
  exact k_MD_take_L10 C FU t0 (0 : Int32) h3 _ hf _ _ I ls (lv_sub hl [1, 0] rfl)
set_option maxRecDepth 100000 in
set_option maxHeartbeats 4000000 in
theorem k_MD_takeDependency_L12 {p : Program} {l : Launch} {e : Env} {s : State} {m : MethodId} {args : Array Value} {below : List Frame} {meth : Method} {c : Code} {G : hp_G} {B : Nat} (C : hq_C p s m args meth c b_MD_takeDependency 3 ((Option.none : Option Jvm.ClassFile.FieldType)) "LayeredLauncherModel" "takeDependency" gt G vwCl aTs) : ∀ (n : Nat) (t0 : Nat) (y1 : Int32) (y2 : Int32) (h : hp_H) (out : hp_H), f_MD_takeDependency_L12 n t0 y1 y2 h = some out → ∀ (H : Heap) (locs : List Loc), hp_I G vwCl B s.heap h H locs → ∀ ls : Array Slot, lv_has ls 3 [(0, va_rf (some t0)), (1, .int y1), (2, .int y2)] → W p l e ({ frames := 0, cells := 0, slots := 0, locals := 0 }) s m args below meth c H locs 0 0 (MQ below (hq_Q G vwCl B none out) args s 0 0 (fun q => B ≤ q)) (F0 m 12 ls []) := by
  intro n
  induction n with
  | zero => intro t0 y1 y2 h out hf; simp [f_MD_takeDependency_L12] at hf
  | succ n ih =>
    intro t0 y1 y2 h out hf H locs I ls hl
    simp only [f_MD_takeDependency_L12] at hf
    refine lv_iload_n C.1.1 C.1.2.1 d_MD_takeDependency_12 rfl (lv_at hl 2 rfl) ?_
    refine hq_aload_n C.1.1 C.1.2.1 d_MD_takeDependency_13 rfl (lv_at hl 0 rfl) ?_
    replace hf := Option.bind_eq_some_iff.mp hf
    obtain ⟨x7, e8, hf⟩ := hf
    refine hq_getI C I F_MD_17 e8 d_MD_takeDependency_14 ?_
    refine lv_icmp_ge (tgt := 43) C.1.1 C.1.2.1 d_MD_takeDependency_17 (by decide) (fun c9 => ?_) (fun c9 => ?_)
    · rw [if_pos c9] at hf
      cases hf
      exact hq_vret C I (by decide) (by decide) d_MD_takeDependency_43
    · rw [if_neg c9] at hf
      refine hq_aload_n C.1.1 C.1.2.1 d_MD_takeDependency_20 rfl (lv_at hl 0 rfl) ?_
      replace hf := Option.bind_eq_some_iff.mp hf
      obtain ⟨x10, e11, hf⟩ := hf
      refine hq_getR C I F_MD_20 e11 d_MD_takeDependency_21 ?_
      refine lv_iload_n C.1.1 C.1.2.1 d_MD_takeDependency_24 rfl (lv_at hl 2 rfl) ?_
      refine hq_aload_n C.1.1 C.1.2.1 d_MD_takeDependency_25 rfl (lv_at hl 0 rfl) ?_
      replace hf := Option.bind_eq_some_iff.mp hf
      obtain ⟨x12, e13, hf⟩ := hf
      refine hq_getR C I F_MD_51 e13 d_MD_takeDependency_26 ?_
      refine lv_iload_n C.1.1 C.1.2.1 d_MD_takeDependency_29 rfl (lv_at hl 1 rfl) ?_
      refine lv_bipush (v := 40) C.1.1 C.1.2.1 d_MD_takeDependency_30 (by decide) ?_
      refine lv_imul C.1.1 C.1.2.1 d_MD_takeDependency_32 ?_
      refine lv_iload_n C.1.1 C.1.2.1 d_MD_takeDependency_33 rfl (lv_at hl 2 rfl) ?_
      refine lv_iadd C.1.1 C.1.2.1 d_MD_takeDependency_34 ?_
      replace hf := Option.bind_eq_some_iff.mp hf
      obtain ⟨x14, e15, hf⟩ := hf
      refine hq_iald C I (t := 0) rfl e15 d_MD_takeDependency_35 ?_
      replace hf := Option.bind_eq_some_iff.mp hf
      obtain ⟨h16, e17, hf⟩ := hf
      refine hq_iast C I (t := 0) rfl e17 d_MD_takeDependency_36 (fun H locs I => ?_)
      refine lv_iinc (v := (y2 + 1)) (lv' := [(2, .int (y2 + 1)), (0, va_rf (some t0)), (1, .int y1)]) C.1.1 C.1.2.1 d_MD_takeDependency_37 hl (k := 2) rfl rfl (by decide) (by first | rfl | simp [hq_cat, hq_catI, hq_catL]) (fun ls hl => ?_)
      refine lv_goto (tgt := 12) C.1.1 C.1.2.1 d_MD_takeDependency_40 (by decide) ?_
      refine W.widen (k := 0) (n := 0) (by decide) (by decide) ?_
      exact ih t0 y1 (y2 + 1) h16 _ hf _ _ I ls (lv_sub hl [1, 2, 0] rfl)
set_option maxRecDepth 100000 in
set_option maxHeartbeats 4000000 in
theorem k_MD_takeDependency (l : Launch) (G : hp_G) (B : Nat) (h : hp_H) (t0 : Nat) (p1 : Int32) (out : hp_H) (hf : f_MD_takeDependency h t0 p1 = some out) : Met l y_MD_takeDependency (.code y_MD_takeDependency b_MD_takeDependency 3 ((Option.none : Option Jvm.ClassFile.FieldType)) :: gt) ({ frames := 0, cells := 0, slots := 0, locals := 0 }) (hq_Pc G vwCl aTs B h [.ref t0, .int p1]) (hq_Q G vwCl B none out) 0 0 (fun q => B ≤ q) := by
  refine hq_enter (nL := 3) (by decide +kernel) (Nat.le_of_ble_eq_true rfl) ?_
  intro p e s m args below meth c C I ls hl
  have hl : lv_has ls 3 [(0, va_rf (some t0)), (1, .int p1)] := hl
  unfold f_MD_takeDependency at hf
  refine hq_aload_n C.1.1 C.1.2.1 d_MD_takeDependency_0 rfl (lv_at hl 0 rfl) ?_
  refine hq_aload_n C.1.1 C.1.2.1 d_MD_takeDependency_1 rfl (lv_at hl 0 rfl) ?_
  replace hf := Option.bind_eq_some_iff.mp hf
  obtain ⟨x1, e2, hf⟩ := hf
  refine hq_getR C I F_MD_48 e2 d_MD_takeDependency_2 ?_
  refine lv_iload_n C.1.1 C.1.2.1 d_MD_takeDependency_5 rfl (lv_at hl 1 rfl) ?_
  replace hf := Option.bind_eq_some_iff.mp hf
  obtain ⟨x3, e4, hf⟩ := hf
  refine hq_iald C I (t := 0) rfl e4 d_MD_takeDependency_6 ?_
  replace hf := Option.bind_eq_some_iff.mp hf
  obtain ⟨h5, e6, hf⟩ := hf
  refine hq_put C I F_MD_17 e6 rfl rfl d_MD_takeDependency_7 (fun H locs I => ?_)
  refine lv_iconst (v := 0) C.1.1 C.1.2.1 d_MD_takeDependency_10 (by decide) ?_
  refine lv_istore_n (i := 2) (lv' := [(2, .int (0 : Int32)), (0, va_rf (some t0)), (1, .int p1)]) C.1.1 C.1.2.1 d_MD_takeDependency_11 rfl hl (by decide) (by first | rfl | simp [hq_cat, hq_catI, hq_catL]) (fun ls hl => ?_)
  refine W.widen (k := 0) (n := 0) (by decide) (by decide) ?_
  exact k_MD_takeDependency_L12 C FU t0 p1 (0 : Int32) h5 _ hf _ _ I ls (lv_sub hl [1, 2, 0] rfl)
set_option maxRecDepth 100000 in
set_option maxHeartbeats 4000000 in
theorem k_MD_colonAt_L2 {p : Program} {l : Launch} {e : Env} {s : State} {m : MethodId} {args : Array Value} {below : List Frame} {meth : Method} {c : Code} {G : hp_G} {B : Nat} (C : hq_C p s m args meth c b_MD_colonAt 2 ((Option.some Jvm.ClassFile.FieldType.int)) "LayeredLauncherModel" "colonAt" gt G vwCl aTs) : ∀ (n : Nat) (t0 : Nat) (y1 : Int32) (h : hp_H) (out : Int32 × hp_H), f_MD_colonAt_L2 n t0 y1 h = some out → ∀ (H : Heap) (locs : List Loc), hp_I G vwCl B s.heap h H locs → ∀ ls : Array Slot, lv_has ls 2 [(0, va_rf (some t0)), (1, .int y1)] → W p l e ({ frames := 0, cells := 0, slots := 0, locals := 0 }) s m args below meth c H locs 0 0 (MQ below (hq_Q G vwCl B (some (.int out.1)) out.2) args s 0 0 (fun q => B ≤ q)) (F0 m 2 ls []) := by
  intro n
  induction n with
  | zero => intro t0 y1 h out hf; simp [f_MD_colonAt_L2] at hf
  | succ n ih =>
    intro t0 y1 h out hf H locs I ls hl
    simp only [f_MD_colonAt_L2] at hf
    refine lv_iload_n C.1.1 C.1.2.1 d_MD_colonAt_2 rfl (lv_at hl 1 rfl) ?_
    refine hq_aload_n C.1.1 C.1.2.1 d_MD_colonAt_3 rfl (lv_at hl 0 rfl) ?_
    replace hf := Option.bind_eq_some_iff.mp hf
    obtain ⟨x1, e2, hf⟩ := hf
    refine hq_getI C I F_MD_17 e2 d_MD_colonAt_4 ?_
    refine lv_icmp_ge (tgt := 27) C.1.1 C.1.2.1 d_MD_colonAt_7 (by decide) (fun c3 => ?_) (fun c3 => ?_)
    · rw [if_pos c3] at hf
      refine lv_iload_n C.1.1 C.1.2.1 d_MD_colonAt_27 rfl (lv_at hl 1 rfl) ?_
      cases hf
      exact hq_iret C I (by decide) (by decide) d_MD_colonAt_28
    · rw [if_neg c3] at hf
      refine hq_aload_n C.1.1 C.1.2.1 d_MD_colonAt_10 rfl (lv_at hl 0 rfl) ?_
      replace hf := Option.bind_eq_some_iff.mp hf
      obtain ⟨x4, e5, hf⟩ := hf
      refine hq_getR C I F_MD_20 e5 d_MD_colonAt_11 ?_
      refine lv_iload_n C.1.1 C.1.2.1 d_MD_colonAt_14 rfl (lv_at hl 1 rfl) ?_
      replace hf := Option.bind_eq_some_iff.mp hf
      obtain ⟨x6, e7, hf⟩ := hf
      refine hq_iald C I (t := 0) rfl e7 d_MD_colonAt_15 ?_
      refine lv_bipush (v := 58) C.1.1 C.1.2.1 d_MD_colonAt_16 (by decide) ?_
      refine lv_icmp_eq (tgt := 27) C.1.1 C.1.2.1 d_MD_colonAt_18 (by decide) (fun c8 => ?_) (fun c8 => ?_)
      · rw [if_pos c8] at hf
        refine lv_iload_n C.1.1 C.1.2.1 d_MD_colonAt_27 rfl (lv_at hl 1 rfl) ?_
        cases hf
        exact hq_iret C I (by decide) (by decide) d_MD_colonAt_28
      · rw [if_neg c8] at hf
        refine lv_iinc (v := (y1 + 1)) (lv' := [(1, .int (y1 + 1)), (0, va_rf (some t0))]) C.1.1 C.1.2.1 d_MD_colonAt_21 hl (k := 1) rfl rfl (by decide) (by first | rfl | simp [hq_cat, hq_catI, hq_catL]) (fun ls hl => ?_)
        refine lv_goto (tgt := 2) C.1.1 C.1.2.1 d_MD_colonAt_24 (by decide) ?_
        refine W.widen (k := 0) (n := 0) (by decide) (by decide) ?_
        exact ih t0 (y1 + 1) h _ hf _ _ I ls (lv_sub hl [1, 0] rfl)
set_option maxRecDepth 100000 in
set_option maxHeartbeats 4000000 in
theorem k_MD_colonAt (l : Launch) (G : hp_G) (B : Nat) (h : hp_H) (t0 : Nat) (out : Int32 × hp_H) (hf : f_MD_colonAt h t0 = some out) : Met l y_MD_colonAt (.code y_MD_colonAt b_MD_colonAt 2 ((Option.some Jvm.ClassFile.FieldType.int)) :: gt) ({ frames := 0, cells := 0, slots := 0, locals := 0 }) (hq_Pc G vwCl aTs B h [.ref t0]) (hq_Q G vwCl B (some (.int out.1)) out.2) 0 0 (fun q => B ≤ q) := by
  refine hq_enter (nL := 2) (by decide +kernel) (Nat.le_of_ble_eq_true rfl) ?_
  intro p e s m args below meth c C I ls hl
  have hl : lv_has ls 2 [(0, va_rf (some t0))] := hl
  unfold f_MD_colonAt at hf
  refine lv_iconst (v := 0) C.1.1 C.1.2.1 d_MD_colonAt_0 (by decide) ?_
  refine lv_istore_n (i := 1) (lv' := [(1, .int (0 : Int32)), (0, va_rf (some t0))]) C.1.1 C.1.2.1 d_MD_colonAt_1 rfl hl (by decide) (by first | rfl | simp [hq_cat, hq_catI, hq_catL]) (fun ls hl => ?_)
  refine W.widen (k := 0) (n := 0) (by decide) (by decide) ?_
  exact k_MD_colonAt_L2 C FU t0 (0 : Int32) h _ hf _ _ I ls (lv_sub hl [1, 0] rfl)
set_option maxRecDepth 100000 in
set_option maxHeartbeats 4000000 in
theorem k_MD_isName_L2 {p : Program} {l : Launch} {e : Env} {s : State} {m : MethodId} {args : Array Value} {below : List Frame} {meth : Method} {c : Code} {G : hp_G} {B : Nat} (C : hq_C p s m args meth c b_MD_isName 4 ((Option.some Jvm.ClassFile.FieldType.boolean)) "LayeredLauncherModel" "isName" gt G vwCl aTs) : ∀ (n : Nat) (t0 : Nat) (y1 : Int32) (y2 : Int32) (y3 : Int32) (h : hp_H) (out : Int32 × hp_H), f_MD_isName_L2 n t0 y1 y2 y3 h = some out → ∀ (H : Heap) (locs : List Loc), hp_I G vwCl B s.heap h H locs → ∀ ls : Array Slot, lv_has ls 4 [(0, va_rf (some t0)), (1, .int y1), (2, .int y2), (3, .int y3)] → W p l e ({ frames := 0, cells := 0, slots := 0, locals := 0 }) s m args below meth c H locs 0 0 (MQ below (hq_Q G vwCl B (some (.int out.1)) out.2) args s 0 0 (fun q => B ≤ q)) (F0 m 2 ls []) := by
  intro n
  induction n with
  | zero => intro t0 y1 y2 y3 h out hf; simp [f_MD_isName_L2] at hf
  | succ n ih =>
    intro t0 y1 y2 y3 h out hf H locs I ls hl
    simp only [f_MD_isName_L2] at hf
    refine lv_iload_n C.1.1 C.1.2.1 d_MD_isName_2 rfl (lv_at hl 3 rfl) ?_
    refine lv_iload_n C.1.1 C.1.2.1 d_MD_isName_3 rfl (lv_at hl 2 rfl) ?_
    refine lv_icmp_ge (tgt := 37) C.1.1 C.1.2.1 d_MD_isName_4 (by decide) (fun c1 => ?_) (fun c1 => ?_)
    · rw [if_pos c1] at hf
      refine lv_iload_n C.1.1 C.1.2.1 d_MD_isName_37 rfl (lv_at hl 2 rfl) ?_
      refine lv_iload_n C.1.1 C.1.2.1 d_MD_isName_38 rfl (lv_at hl 1 rfl) ?_
      refine lv_icmp_le (tgt := 54) C.1.1 C.1.2.1 d_MD_isName_39 (by decide) (fun c2 => ?_) (fun c2 => ?_)
      · rw [if_pos c2] at hf
        refine lv_iconst (v := 0) C.1.1 C.1.2.1 d_MD_isName_54 (by decide) ?_
        cases hf
        exact hq_zret C I (hp_z_nar (x := 0) (Or.inl rfl)).1 (by decide) (by decide) d_MD_isName_55
      · rw [if_neg c2] at hf
        refine lv_iload_n C.1.1 C.1.2.1 d_MD_isName_42 rfl (lv_at hl 2 rfl) ?_
        refine lv_iload_n C.1.1 C.1.2.1 d_MD_isName_43 rfl (lv_at hl 1 rfl) ?_
        refine lv_isub C.1.1 C.1.2.1 d_MD_isName_44 ?_
        refine lv_bipush (v := 8) C.1.1 C.1.2.1 d_MD_isName_45 (by decide) ?_
        refine lv_icmp_gt (tgt := 54) C.1.1 C.1.2.1 d_MD_isName_47 (by decide) (fun c3 => ?_) (fun c3 => ?_)
        · rw [if_pos c3] at hf
          refine lv_iconst (v := 0) C.1.1 C.1.2.1 d_MD_isName_54 (by decide) ?_
          cases hf
          exact hq_zret C I (hp_z_nar (x := 0) (Or.inl rfl)).1 (by decide) (by decide) d_MD_isName_55
        · rw [if_neg c3] at hf
          refine lv_iconst (v := 1) C.1.1 C.1.2.1 d_MD_isName_50 (by decide) ?_
          refine lv_goto (tgt := 55) C.1.1 C.1.2.1 d_MD_isName_51 (by decide) ?_
          cases hf
          exact hq_zret C I (hp_z_nar (x := 1) (Or.inr rfl)).1 (by decide) (by decide) d_MD_isName_55
    · rw [if_neg c1] at hf
      refine hq_aload_n C.1.1 C.1.2.1 d_MD_isName_7 rfl (lv_at hl 0 rfl) ?_
      replace hf := Option.bind_eq_some_iff.mp hf
      obtain ⟨x4, e5, hf⟩ := hf
      refine hq_getR C I F_MD_20 e5 d_MD_isName_8 ?_
      refine lv_iload_n C.1.1 C.1.2.1 d_MD_isName_11 rfl (lv_at hl 3 rfl) ?_
      replace hf := Option.bind_eq_some_iff.mp hf
      obtain ⟨x6, e7, hf⟩ := hf
      refine hq_iald C I (t := 0) rfl e7 d_MD_isName_12 ?_
      refine lv_bipush (v := 97) C.1.1 C.1.2.1 d_MD_isName_13 (by decide) ?_
      refine lv_icmp_lt (tgt := 29) C.1.1 C.1.2.1 d_MD_isName_15 (by decide) (fun c8 => ?_) (fun c8 => ?_)
      · rw [if_pos c8] at hf
        refine lv_iconst (v := 0) C.1.1 C.1.2.1 d_MD_isName_29 (by decide) ?_
        cases hf
        exact hq_zret C I (hp_z_nar (x := 0) (Or.inl rfl)).1 (by decide) (by decide) d_MD_isName_30
      · rw [if_neg c8] at hf
        refine hq_aload_n C.1.1 C.1.2.1 d_MD_isName_18 rfl (lv_at hl 0 rfl) ?_
        replace hf := Option.bind_eq_some_iff.mp hf
        obtain ⟨x9, e10, hf⟩ := hf
        refine hq_getR C I F_MD_20 e10 d_MD_isName_19 ?_
        refine lv_iload_n C.1.1 C.1.2.1 d_MD_isName_22 rfl (lv_at hl 3 rfl) ?_
        replace hf := Option.bind_eq_some_iff.mp hf
        obtain ⟨x11, e12, hf⟩ := hf
        refine hq_iald C I (t := 0) rfl e12 d_MD_isName_23 ?_
        refine lv_bipush (v := 122) C.1.1 C.1.2.1 d_MD_isName_24 (by decide) ?_
        refine lv_icmp_le (tgt := 31) C.1.1 C.1.2.1 d_MD_isName_26 (by decide) (fun c13 => ?_) (fun c13 => ?_)
        · rw [if_pos c13] at hf
          refine lv_iinc (v := (y3 + 1)) (lv' := [(3, .int (y3 + 1)), (0, va_rf (some t0)), (1, .int y1), (2, .int y2)]) C.1.1 C.1.2.1 d_MD_isName_31 hl (k := 3) rfl rfl (by decide) (by first | rfl | simp [hq_cat, hq_catI, hq_catL]) (fun ls hl => ?_)
          refine lv_goto (tgt := 2) C.1.1 C.1.2.1 d_MD_isName_34 (by decide) ?_
          refine W.widen (k := 0) (n := 0) (by decide) (by decide) ?_
          exact ih t0 y1 y2 (y3 + 1) h _ hf _ _ I ls (lv_sub hl [1, 2, 3, 0] rfl)
        · rw [if_neg c13] at hf
          refine lv_iconst (v := 0) C.1.1 C.1.2.1 d_MD_isName_29 (by decide) ?_
          cases hf
          exact hq_zret C I (hp_z_nar (x := 0) (Or.inl rfl)).1 (by decide) (by decide) d_MD_isName_30
set_option maxRecDepth 100000 in
set_option maxHeartbeats 4000000 in
theorem k_MD_isName (l : Launch) (G : hp_G) (B : Nat) (h : hp_H) (t0 : Nat) (p1 : Int32) (p2 : Int32) (out : Int32 × hp_H) (hf : f_MD_isName h t0 p1 p2 = some out) : Met l y_MD_isName (.code y_MD_isName b_MD_isName 4 ((Option.some Jvm.ClassFile.FieldType.boolean)) :: gt) ({ frames := 0, cells := 0, slots := 0, locals := 0 }) (hq_Pc G vwCl aTs B h [.ref t0, .int p1, .int p2]) (hq_Q G vwCl B (some (.int out.1)) out.2) 0 0 (fun q => B ≤ q) := by
  refine hq_enter (nL := 4) (by decide +kernel) (Nat.le_of_ble_eq_true rfl) ?_
  intro p e s m args below meth c C I ls hl
  have hl : lv_has ls 4 [(0, va_rf (some t0)), (1, .int p1), (2, .int p2)] := hl
  unfold f_MD_isName at hf
  refine lv_iload_n C.1.1 C.1.2.1 d_MD_isName_0 rfl (lv_at hl 1 rfl) ?_
  refine lv_istore_n (i := 3) (lv' := [(3, .int p1), (0, va_rf (some t0)), (1, .int p1), (2, .int p2)]) C.1.1 C.1.2.1 d_MD_isName_1 rfl hl (by decide) (by first | rfl | simp [hq_cat, hq_catI, hq_catL]) (fun ls hl => ?_)
  refine W.widen (k := 0) (n := 0) (by decide) (by decide) ?_
  exact k_MD_isName_L2 C FU t0 p1 p2 p1 h _ hf _ _ I ls (lv_sub hl [1, 2, 3, 0] rfl)
set_option maxRecDepth 100000 in
set_option maxHeartbeats 4000000 in
theorem k_MD_isDigit (l : Launch) (G : hp_G) (B : Nat) (h : hp_H) (t0 : Nat) (p1 : Int32) (out : Int32 × hp_H) (hf : f_MD_isDigit h t0 p1 = some out) : Met l y_MD_isDigit (.code y_MD_isDigit b_MD_isDigit 2 ((Option.some Jvm.ClassFile.FieldType.boolean)) :: gt) ({ frames := 0, cells := 0, slots := 0, locals := 0 }) (hq_Pc G vwCl aTs B h [.ref t0, .int p1]) (hq_Q G vwCl B (some (.int out.1)) out.2) 0 0 (fun q => B ≤ q) := by
  refine hq_enter (nL := 2) (by decide +kernel) (Nat.le_of_ble_eq_true rfl) ?_
  intro p e s m args below meth c C I ls hl
  have hl : lv_has ls 2 [(0, va_rf (some t0)), (1, .int p1)] := hl
  unfold f_MD_isDigit at hf
  refine lv_iload_n C.1.1 C.1.2.1 d_MD_isDigit_0 rfl (lv_at hl 1 rfl) ?_
  refine lv_bipush (v := 48) C.1.1 C.1.2.1 d_MD_isDigit_1 (by decide) ?_
  refine lv_icmp_lt (tgt := 16) C.1.1 C.1.2.1 d_MD_isDigit_3 (by decide) (fun c1 => ?_) (fun c1 => ?_)
  · rw [if_pos c1] at hf
    refine lv_iconst (v := 0) C.1.1 C.1.2.1 d_MD_isDigit_16 (by decide) ?_
    cases hf
    exact hq_zret C I (hp_z_nar (x := 0) (Or.inl rfl)).1 (by decide) (by decide) d_MD_isDigit_17
  · rw [if_neg c1] at hf
    refine lv_iload_n C.1.1 C.1.2.1 d_MD_isDigit_6 rfl (lv_at hl 1 rfl) ?_
    refine lv_bipush (v := 57) C.1.1 C.1.2.1 d_MD_isDigit_7 (by decide) ?_
    refine lv_icmp_gt (tgt := 16) C.1.1 C.1.2.1 d_MD_isDigit_9 (by decide) (fun c2 => ?_) (fun c2 => ?_)
    · rw [if_pos c2] at hf
      refine lv_iconst (v := 0) C.1.1 C.1.2.1 d_MD_isDigit_16 (by decide) ?_
      cases hf
      exact hq_zret C I (hp_z_nar (x := 0) (Or.inl rfl)).1 (by decide) (by decide) d_MD_isDigit_17
    · rw [if_neg c2] at hf
      refine lv_iconst (v := 1) C.1.1 C.1.2.1 d_MD_isDigit_12 (by decide) ?_
      refine lv_goto (tgt := 17) C.1.1 C.1.2.1 d_MD_isDigit_13 (by decide) ?_
      cases hf
      exact hq_zret C I (hp_z_nar (x := 1) (Or.inr rfl)).1 (by decide) (by decide) d_MD_isDigit_17
set_option maxRecDepth 100000 in
set_option maxHeartbeats 4000000 in
theorem k_MD_isMark (l : Launch) (G : hp_G) (B : Nat) (h : hp_H) (t0 : Nat) (p1 : Int32) (out : Int32 × hp_H) (hf : f_MD_isMark h t0 p1 = some out) : Met l y_MD_isMark (.code y_MD_isMark b_MD_isMark 2 ((Option.some Jvm.ClassFile.FieldType.boolean)) :: gt) ({ frames := 0, cells := 0, slots := 0, locals := 0 }) (hq_Pc G vwCl aTs B h [.ref t0, .int p1]) (hq_Q G vwCl B (some (.int out.1)) out.2) 0 0 (fun q => B ≤ q) := by
  refine hq_enter (nL := 2) (by decide +kernel) (Nat.le_of_ble_eq_true rfl) ?_
  intro p e s m args below meth c C I ls hl
  have hl : lv_has ls 2 [(0, va_rf (some t0)), (1, .int p1)] := hl
  unfold f_MD_isMark at hf
  refine lv_iload_n C.1.1 C.1.2.1 d_MD_isMark_0 rfl (lv_at hl 1 rfl) ?_
  refine lv_bipush (v := 46) C.1.1 C.1.2.1 d_MD_isMark_1 (by decide) ?_
  refine lv_icmp_eq (tgt := 12) C.1.1 C.1.2.1 d_MD_isMark_3 (by decide) (fun c1 => ?_) (fun c1 => ?_)
  · rw [if_pos c1] at hf
    refine lv_iconst (v := 1) C.1.1 C.1.2.1 d_MD_isMark_12 (by decide) ?_
    refine lv_goto (tgt := 17) C.1.1 C.1.2.1 d_MD_isMark_13 (by decide) ?_
    cases hf
    exact hq_zret C I (hp_z_nar (x := 1) (Or.inr rfl)).1 (by decide) (by decide) d_MD_isMark_17
  · rw [if_neg c1] at hf
    refine lv_iload_n C.1.1 C.1.2.1 d_MD_isMark_6 rfl (lv_at hl 1 rfl) ?_
    refine lv_bipush (v := 45) C.1.1 C.1.2.1 d_MD_isMark_7 (by decide) ?_
    refine lv_icmp_ne (tgt := 16) C.1.1 C.1.2.1 d_MD_isMark_9 (by decide) (fun c2 => ?_) (fun c2 => ?_)
    · rw [if_neg c2] at hf
      refine lv_iconst (v := 0) C.1.1 C.1.2.1 d_MD_isMark_16 (by decide) ?_
      cases hf
      exact hq_zret C I (hp_z_nar (x := 0) (Or.inl rfl)).1 (by decide) (by decide) d_MD_isMark_17
    · rw [if_pos c2] at hf
      refine lv_iconst (v := 1) C.1.1 C.1.2.1 d_MD_isMark_12 (by decide) ?_
      refine lv_goto (tgt := 17) C.1.1 C.1.2.1 d_MD_isMark_13 (by decide) ?_
      cases hf
      exact hq_zret C I (hp_z_nar (x := 1) (Or.inr rfl)).1 (by decide) (by decide) d_MD_isMark_17
set_option maxRecDepth 100000 in
set_option maxHeartbeats 4000000 in
theorem k_MD_isVersion_L97 {p : Program} {l : Launch} {e : Env} {s : State} {m : MethodId} {args : Array Value} {below : List Frame} {meth : Method} {c : Code} {G : hp_G} {B : Nat} (C : hq_C p s m args meth c b_MD_isVersion 5 ((Option.some Jvm.ClassFile.FieldType.boolean)) "LayeredLauncherModel" "isVersion" gt G vwCl aTs) (k30 : Nat → Int32 → Int32 → hp_H → Option (Int32 × hp_H)) (hk30 : ∀ (t0 : Nat) (y2 : Int32) (y3 : Int32) (h : hp_H) (out : Int32 × hp_H), k30 t0 y2 y3 h = some out → ∀ (H : Heap) (locs : List Loc), hp_I G vwCl B s.heap h H locs → ∀ ls : Array Slot, lv_has ls 5 [(0, va_rf (some t0)), (2, .int y2), (3, .int y3)] → W p l e ({ frames := 1, cells := 0, slots := 0, locals := 21 }) s m args below meth c H locs 0 0 (MQ below (hq_Q G vwCl B (some (.int out.1)) out.2) args s 0 0 (fun q => B ≤ q)) (F0 m 30 ls [])) : ∀ (t0 : Nat) (y2 : Int32) (y3 : Int32) (h : hp_H) (out : Int32 × hp_H), f_MD_isVersion_L97 k30 t0 y2 y3 h = some out → ∀ (H : Heap) (locs : List Loc), hp_I G vwCl B s.heap h H locs → ∀ ls : Array Slot, lv_has ls 5 [(0, va_rf (some t0)), (2, .int y2), (3, .int y3)] → W p l e ({ frames := 1, cells := 0, slots := 0, locals := 21 }) s m args below meth c H locs 0 0 (MQ below (hq_Q G vwCl B (some (.int out.1)) out.2) args s 0 0 (fun q => B ≤ q)) (F0 m 97 ls []) := by
  intro t0 y2 y3 h out hf H locs I ls hl
  unfold f_MD_isVersion_L97 at hf
  refine hq_aload_n C.1.1 C.1.2.1 d_MD_isVersion_97 rfl (lv_at hl 0 rfl) ?_
  refine hq_aload_n C.1.1 C.1.2.1 d_MD_isVersion_98 rfl (lv_at hl 0 rfl) ?_
  replace hf := Option.bind_eq_some_iff.mp hf
  obtain ⟨x42, e43, hf⟩ := hf
  refine hq_getR C I F_MD_20 e43 d_MD_isVersion_99 ?_
  refine lv_iload_n C.1.1 C.1.2.1 d_MD_isVersion_102 rfl (lv_at hl 2 rfl) ?_
  replace hf := Option.bind_eq_some_iff.mp hf
  obtain ⟨x44, e45, hf⟩ := hf
  refine hq_iald C I (t := 0) rfl e45 d_MD_isVersion_103 ?_
  replace hf := Option.bind_eq_some_iff.mp hf
  obtain ⟨b48, e49, hf⟩ := hf
  obtain ⟨e49r, _, e49c⟩ := hp_o_inv e49
  cases e49r
  replace hf := Option.bind_eq_some_iff.mp hf
  obtain ⟨q46, e47, hf⟩ := hf
  refine hq_callW gt_good C I hl.1 (k_MD_isMark l G B _ t0 x44 q46 e47) M_MD_103 e49c rfl ⟨rfl, rfl⟩ ⟨Nat.le_of_ble_eq_true rfl, Nat.le_of_ble_eq_true rfl⟩ rfl (Nat.le_of_ble_eq_true rfl) d_MD_isVersion_104 ⟨Nat.le_of_ble_eq_true rfl, Nat.le_of_ble_eq_true rfl⟩ (fun H locs I => ?_)
  refine W.widen (k := 0) (n := 0) (by decide) (by decide) ?_
  refine lv_if_eq (tgt := 134) C.1.1 C.1.2.1 d_MD_isVersion_107 (by decide) (fun c50 => ?_) (fun c50 => ?_)
  · rw [if_pos c50] at hf
    refine lv_iinc (v := (y3 + 1)) (lv' := [(3, .int (y3 + 1)), (0, va_rf (some t0)), (2, .int y2)]) C.1.1 C.1.2.1 d_MD_isVersion_134 hl (k := 2) rfl rfl (by decide) (by first | rfl | simp [hq_cat, hq_catI, hq_catL]) (fun ls hl => ?_)
    refine lv_goto (tgt := 30) C.1.1 C.1.2.1 d_MD_isVersion_137 (by decide) ?_
    refine W.widen (k := 0) (n := 0) (by decide) (by decide) ?_
    exact hk30 t0 y2 (y3 + 1) q46.2 _ hf _ _ I ls (lv_sub hl [1, 2, 0] rfl)
  · rw [if_neg c50] at hf
    refine lv_iload_n C.1.1 C.1.2.1 d_MD_isVersion_110 rfl (lv_at hl 2 rfl) ?_
    refine lv_iconst (v := 1) C.1.1 C.1.2.1 d_MD_isVersion_111 (by decide) ?_
    refine lv_iadd C.1.1 C.1.2.1 d_MD_isVersion_112 ?_
    refine lv_iload_n C.1.1 C.1.2.1 d_MD_isVersion_113 rfl (lv_at hl 1 rfl) ?_
    refine lv_icmp_eq (tgt := 132) C.1.1 C.1.2.1 d_MD_isVersion_114 (by decide) (fun c51 => ?_) (fun c51 => ?_)
    · rw [if_pos c51] at hf
      refine lv_iconst (v := 0) C.1.1 C.1.2.1 d_MD_isVersion_132 (by decide) ?_
      cases hf
      exact hq_zret C I (hp_z_nar (x := 0) (Or.inl rfl)).1 (by decide) (by decide) d_MD_isVersion_133
    · rw [if_neg c51] at hf
      refine hq_aload_n C.1.1 C.1.2.1 d_MD_isVersion_117 rfl (lv_at hl 0 rfl) ?_
      refine hq_aload_n C.1.1 C.1.2.1 d_MD_isVersion_118 rfl (lv_at hl 0 rfl) ?_
      replace hf := Option.bind_eq_some_iff.mp hf
      obtain ⟨x52, e53, hf⟩ := hf
      refine hq_getR C I F_MD_20 e53 d_MD_isVersion_119 ?_
      refine lv_iload_n C.1.1 C.1.2.1 d_MD_isVersion_122 rfl (lv_at hl 2 rfl) ?_
      refine lv_iconst (v := 1) C.1.1 C.1.2.1 d_MD_isVersion_123 (by decide) ?_
      refine lv_iadd C.1.1 C.1.2.1 d_MD_isVersion_124 ?_
      replace hf := Option.bind_eq_some_iff.mp hf
      obtain ⟨x54, e55, hf⟩ := hf
      refine hq_iald C I (t := 0) rfl e55 d_MD_isVersion_125 ?_
      replace hf := Option.bind_eq_some_iff.mp hf
      obtain ⟨b58, e59, hf⟩ := hf
      obtain ⟨e59r, _, e59c⟩ := hp_o_inv e59
      cases e59r
      replace hf := Option.bind_eq_some_iff.mp hf
      obtain ⟨q56, e57, hf⟩ := hf
      refine hq_callW gt_good C I hl.1 (k_MD_isMark l G B _ t0 x54 q56 e57) M_MD_103 e59c rfl ⟨rfl, rfl⟩ ⟨Nat.le_of_ble_eq_true rfl, Nat.le_of_ble_eq_true rfl⟩ rfl (Nat.le_of_ble_eq_true rfl) d_MD_isVersion_126 ⟨Nat.le_of_ble_eq_true rfl, Nat.le_of_ble_eq_true rfl⟩ (fun H locs I => ?_)
      refine W.widen (k := 0) (n := 0) (by decide) (by decide) ?_
      refine lv_if_eq (tgt := 134) C.1.1 C.1.2.1 d_MD_isVersion_129 (by decide) (fun c60 => ?_) (fun c60 => ?_)
      · rw [if_pos c60] at hf
        refine lv_iinc (v := (y3 + 1)) (lv' := [(3, .int (y3 + 1)), (0, va_rf (some t0)), (2, .int y2)]) C.1.1 C.1.2.1 d_MD_isVersion_134 hl (k := 2) rfl rfl (by decide) (by first | rfl | simp [hq_cat, hq_catI, hq_catL]) (fun ls hl => ?_)
        refine lv_goto (tgt := 30) C.1.1 C.1.2.1 d_MD_isVersion_137 (by decide) ?_
        refine W.widen (k := 0) (n := 0) (by decide) (by decide) ?_
        exact hk30 t0 y2 (y3 + 1) q56.2 _ hf _ _ I ls (lv_sub hl [1, 2, 0] rfl)
      · rw [if_neg c60] at hf
        refine lv_iconst (v := 0) C.1.1 C.1.2.1 d_MD_isVersion_132 (by decide) ?_
        cases hf
        exact hq_zret C I (hp_z_nar (x := 0) (Or.inl rfl)).1 (by decide) (by decide) d_MD_isVersion_133
set_option maxRecDepth 100000 in
set_option maxHeartbeats 4000000 in
theorem k_MD_isVersion_L62 {p : Program} {l : Launch} {e : Env} {s : State} {m : MethodId} {args : Array Value} {below : List Frame} {meth : Method} {c : Code} {G : hp_G} {B : Nat} (C : hq_C p s m args meth c b_MD_isVersion 5 ((Option.some Jvm.ClassFile.FieldType.boolean)) "LayeredLauncherModel" "isVersion" gt G vwCl aTs) (k30 : Nat → Int32 → Int32 → hp_H → Option (Int32 × hp_H)) (hk30 : ∀ (t0 : Nat) (y2 : Int32) (y3 : Int32) (h : hp_H) (out : Int32 × hp_H), k30 t0 y2 y3 h = some out → ∀ (H : Heap) (locs : List Loc), hp_I G vwCl B s.heap h H locs → ∀ ls : Array Slot, lv_has ls 5 [(0, va_rf (some t0)), (2, .int y2), (3, .int y3)] → W p l e ({ frames := 1, cells := 0, slots := 0, locals := 21 }) s m args below meth c H locs 0 0 (MQ below (hq_Q G vwCl B (some (.int out.1)) out.2) args s 0 0 (fun q => B ≤ q)) (F0 m 30 ls [])) : ∀ (t0 : Nat) (y2 : Int32) (y3 : Int32) (s0 : Int32) (h : hp_H) (out : Int32 × hp_H), f_MD_isVersion_L62 k30 t0 y2 y3 s0 h = some out → ∀ (H : Heap) (locs : List Loc), hp_I G vwCl B s.heap h H locs → ∀ ls : Array Slot, lv_has ls 5 [(0, va_rf (some t0)), (2, .int y2), (3, .int y3)] → W p l e ({ frames := 1, cells := 0, slots := 0, locals := 21 }) s m args below meth c H locs 0 0 (MQ below (hq_Q G vwCl B (some (.int out.1)) out.2) args s 0 0 (fun q => B ≤ q)) (F0 m 62 ls [.int s0]) := by
  intro t0 y2 y3 s0 h out hf H locs I ls hl
  unfold f_MD_isVersion_L62 at hf
  refine lv_istore (i := 4) (lv' := [(4, .int s0), (0, va_rf (some t0)), (2, .int y2), (3, .int y3)]) C.1.1 C.1.2.1 d_MD_isVersion_62 hl (by decide) (by first | rfl | simp [hq_cat, hq_catI, hq_catL]) (fun ls hl => ?_)
  refine lv_iload C.1.1 C.1.2.1 d_MD_isVersion_64 (lv_at hl 0 rfl) ?_
  refine lv_if_ne (tgt := 97) C.1.1 C.1.2.1 d_MD_isVersion_66 (by decide) (fun c23 => ?_) (fun c23 => ?_)
  · rw [if_neg c23] at hf
    refine W.widen (k := 0) (n := 0) (by decide) (by decide) ?_
    exact k_MD_isVersion_L97 C _ hk30 t0 y2 y3 h _ hf _ _ I ls (lv_sub hl [1, 2, 3] rfl)
  · rw [if_pos c23] at hf
    refine hq_aload_n C.1.1 C.1.2.1 d_MD_isVersion_69 rfl (lv_at hl 1 rfl) ?_
    refine hq_aload_n C.1.1 C.1.2.1 d_MD_isVersion_70 rfl (lv_at hl 1 rfl) ?_
    replace hf := Option.bind_eq_some_iff.mp hf
    obtain ⟨x24, e25, hf⟩ := hf
    refine hq_getR C I F_MD_20 e25 d_MD_isVersion_71 ?_
    refine lv_iload_n C.1.1 C.1.2.1 d_MD_isVersion_74 rfl (lv_at hl 3 rfl) ?_
    replace hf := Option.bind_eq_some_iff.mp hf
    obtain ⟨x26, e27, hf⟩ := hf
    refine hq_iald C I (t := 0) rfl e27 d_MD_isVersion_75 ?_
    replace hf := Option.bind_eq_some_iff.mp hf
    obtain ⟨b30, e31, hf⟩ := hf
    obtain ⟨e31r, _, e31c⟩ := hp_o_inv e31
    cases e31r
    replace hf := Option.bind_eq_some_iff.mp hf
    obtain ⟨q28, e29, hf⟩ := hf
    refine hq_callW gt_good C I hl.1 (k_MD_isDigit l G B _ t0 x26 q28 e29) M_MD_99 e31c rfl ⟨rfl, rfl⟩ ⟨Nat.le_of_ble_eq_true rfl, Nat.le_of_ble_eq_true rfl⟩ rfl (Nat.le_of_ble_eq_true rfl) d_MD_isVersion_76 ⟨Nat.le_of_ble_eq_true rfl, Nat.le_of_ble_eq_true rfl⟩ (fun H locs I => ?_)
    refine W.widen (k := 0) (n := 0) (by decide) (by decide) ?_
    refine lv_if_ne (tgt := 97) C.1.1 C.1.2.1 d_MD_isVersion_79 (by decide) (fun c32 => ?_) (fun c32 => ?_)
    · rw [if_neg c32] at hf
      refine W.widen (k := 0) (n := 0) (by decide) (by decide) ?_
      exact k_MD_isVersion_L97 C _ hk30 t0 y2 y3 q28.2 _ hf _ _ I ls (lv_sub hl [1, 2, 3] rfl)
    · rw [if_pos c32] at hf
      refine hq_aload_n C.1.1 C.1.2.1 d_MD_isVersion_82 rfl (lv_at hl 1 rfl) ?_
      refine hq_aload_n C.1.1 C.1.2.1 d_MD_isVersion_83 rfl (lv_at hl 1 rfl) ?_
      replace hf := Option.bind_eq_some_iff.mp hf
      obtain ⟨x33, e34, hf⟩ := hf
      refine hq_getR C I F_MD_20 e34 d_MD_isVersion_84 ?_
      refine lv_iload_n C.1.1 C.1.2.1 d_MD_isVersion_87 rfl (lv_at hl 3 rfl) ?_
      replace hf := Option.bind_eq_some_iff.mp hf
      obtain ⟨x35, e36, hf⟩ := hf
      refine hq_iald C I (t := 0) rfl e36 d_MD_isVersion_88 ?_
      replace hf := Option.bind_eq_some_iff.mp hf
      obtain ⟨b39, e40, hf⟩ := hf
      obtain ⟨e40r, _, e40c⟩ := hp_o_inv e40
      cases e40r
      replace hf := Option.bind_eq_some_iff.mp hf
      obtain ⟨q37, e38, hf⟩ := hf
      refine hq_callW gt_good C I hl.1 (k_MD_isMark l G B _ t0 x35 q37 e38) M_MD_103 e40c rfl ⟨rfl, rfl⟩ ⟨Nat.le_of_ble_eq_true rfl, Nat.le_of_ble_eq_true rfl⟩ rfl (Nat.le_of_ble_eq_true rfl) d_MD_isVersion_89 ⟨Nat.le_of_ble_eq_true rfl, Nat.le_of_ble_eq_true rfl⟩ (fun H locs I => ?_)
      refine W.widen (k := 0) (n := 0) (by decide) (by decide) ?_
      refine lv_if_ne (tgt := 97) C.1.1 C.1.2.1 d_MD_isVersion_92 (by decide) (fun c41 => ?_) (fun c41 => ?_)
      · rw [if_neg c41] at hf
        refine W.widen (k := 0) (n := 0) (by decide) (by decide) ?_
        exact k_MD_isVersion_L97 C _ hk30 t0 y2 y3 q37.2 _ hf _ _ I ls (lv_sub hl [1, 2, 3] rfl)
      · rw [if_pos c41] at hf
        refine lv_iconst (v := 0) C.1.1 C.1.2.1 d_MD_isVersion_95 (by decide) ?_
        cases hf
        exact hq_zret C I (hp_z_nar (x := 0) (Or.inl rfl)).1 (by decide) (by decide) d_MD_isVersion_96
set_option maxRecDepth 100000 in
set_option maxHeartbeats 4000000 in
theorem k_MD_isVersion_L61 {p : Program} {l : Launch} {e : Env} {s : State} {m : MethodId} {args : Array Value} {below : List Frame} {meth : Method} {c : Code} {G : hp_G} {B : Nat} (C : hq_C p s m args meth c b_MD_isVersion 5 ((Option.some Jvm.ClassFile.FieldType.boolean)) "LayeredLauncherModel" "isVersion" gt G vwCl aTs) (k30 : Nat → Int32 → Int32 → hp_H → Option (Int32 × hp_H)) (hk30 : ∀ (t0 : Nat) (y2 : Int32) (y3 : Int32) (h : hp_H) (out : Int32 × hp_H), k30 t0 y2 y3 h = some out → ∀ (H : Heap) (locs : List Loc), hp_I G vwCl B s.heap h H locs → ∀ ls : Array Slot, lv_has ls 5 [(0, va_rf (some t0)), (2, .int y2), (3, .int y3)] → W p l e ({ frames := 1, cells := 0, slots := 0, locals := 21 }) s m args below meth c H locs 0 0 (MQ below (hq_Q G vwCl B (some (.int out.1)) out.2) args s 0 0 (fun q => B ≤ q)) (F0 m 30 ls [])) : ∀ (t0 : Nat) (y2 : Int32) (y3 : Int32) (h : hp_H) (out : Int32 × hp_H), f_MD_isVersion_L61 k30 t0 y2 y3 h = some out → ∀ (H : Heap) (locs : List Loc), hp_I G vwCl B s.heap h H locs → ∀ ls : Array Slot, lv_has ls 5 [(0, va_rf (some t0)), (2, .int y2), (3, .int y3)] → W p l e ({ frames := 1, cells := 0, slots := 0, locals := 21 }) s m args below meth c H locs 0 0 (MQ below (hq_Q G vwCl B (some (.int out.1)) out.2) args s 0 0 (fun q => B ≤ q)) (F0 m 61 ls []) := by
  intro t0 y2 y3 h out hf H locs I ls hl
  unfold f_MD_isVersion_L61 at hf
  refine lv_iconst (v := 0) C.1.1 C.1.2.1 d_MD_isVersion_61 (by decide) ?_
  refine W.widen (k := 0) (n := 0) (by decide) (by decide) ?_
  exact k_MD_isVersion_L62 C _ hk30 t0 y2 y3 (0 : Int32) h _ hf _ _ I ls (lv_sub hl [0, 1, 2] rfl)
set_option maxRecDepth 100000 in
set_option maxHeartbeats 4000000 in
theorem k_MD_isVersion_L30 {p : Program} {l : Launch} {e : Env} {s : State} {m : MethodId} {args : Array Value} {below : List Frame} {meth : Method} {c : Code} {G : hp_G} {B : Nat} (C : hq_C p s m args meth c b_MD_isVersion 5 ((Option.some Jvm.ClassFile.FieldType.boolean)) "LayeredLauncherModel" "isVersion" gt G vwCl aTs) : ∀ (n : Nat) (t0 : Nat) (y2 : Int32) (y3 : Int32) (h : hp_H) (out : Int32 × hp_H), f_MD_isVersion_L30 n t0 y2 y3 h = some out → ∀ (H : Heap) (locs : List Loc), hp_I G vwCl B s.heap h H locs → ∀ ls : Array Slot, lv_has ls 5 [(0, va_rf (some t0)), (2, .int y2), (3, .int y3)] → W p l e ({ frames := 1, cells := 0, slots := 0, locals := 21 }) s m args below meth c H locs 0 0 (MQ below (hq_Q G vwCl B (some (.int out.1)) out.2) args s 0 0 (fun q => B ≤ q)) (F0 m 30 ls []) := by
  intro n
  induction n with
  | zero => intro t0 y2 y3 h out hf; simp [f_MD_isVersion_L30] at hf
  | succ n ih =>
    intro t0 y2 y3 h out hf H locs I ls hl
    simp only [f_MD_isVersion_L30] at hf
    refine lv_iload_n C.1.1 C.1.2.1 d_MD_isVersion_30 rfl (lv_at hl 2 rfl) ?_
    refine lv_iload_n C.1.1 C.1.2.1 d_MD_isVersion_31 rfl (lv_at hl 1 rfl) ?_
    refine lv_icmp_ge (tgt := 140) C.1.1 C.1.2.1 d_MD_isVersion_32 (by decide) (fun c12 => ?_) (fun c12 => ?_)
    · rw [if_pos c12] at hf
      refine lv_iconst (v := 1) C.1.1 C.1.2.1 d_MD_isVersion_140 (by decide) ?_
      cases hf
      exact hq_zret C I (hp_z_nar (x := 1) (Or.inr rfl)).1 (by decide) (by decide) d_MD_isVersion_141
    · rw [if_neg c12] at hf
      refine hq_aload_n C.1.1 C.1.2.1 d_MD_isVersion_35 rfl (lv_at hl 0 rfl) ?_
      replace hf := Option.bind_eq_some_iff.mp hf
      obtain ⟨x13, e14, hf⟩ := hf
      refine hq_getR C I F_MD_20 e14 d_MD_isVersion_36 ?_
      refine lv_iload_n C.1.1 C.1.2.1 d_MD_isVersion_39 rfl (lv_at hl 2 rfl) ?_
      replace hf := Option.bind_eq_some_iff.mp hf
      obtain ⟨x15, e16, hf⟩ := hf
      refine hq_iald C I (t := 0) rfl e16 d_MD_isVersion_40 ?_
      refine lv_bipush (v := 97) C.1.1 C.1.2.1 d_MD_isVersion_41 (by decide) ?_
      refine lv_icmp_lt (tgt := 61) C.1.1 C.1.2.1 d_MD_isVersion_43 (by decide) (fun c17 => ?_) (fun c17 => ?_)
      · rw [if_pos c17] at hf
        refine W.widen (k := 0) (n := 0) (by decide) (by decide) ?_
        exact k_MD_isVersion_L61 C _ ih t0 y2 y3 h _ hf _ _ I ls (lv_sub hl [0, 1, 2] rfl)
      · rw [if_neg c17] at hf
        refine hq_aload_n C.1.1 C.1.2.1 d_MD_isVersion_46 rfl (lv_at hl 0 rfl) ?_
        replace hf := Option.bind_eq_some_iff.mp hf
        obtain ⟨x18, e19, hf⟩ := hf
        refine hq_getR C I F_MD_20 e19 d_MD_isVersion_47 ?_
        refine lv_iload_n C.1.1 C.1.2.1 d_MD_isVersion_50 rfl (lv_at hl 2 rfl) ?_
        replace hf := Option.bind_eq_some_iff.mp hf
        obtain ⟨x20, e21, hf⟩ := hf
        refine hq_iald C I (t := 0) rfl e21 d_MD_isVersion_51 ?_
        refine lv_bipush (v := 122) C.1.1 C.1.2.1 d_MD_isVersion_52 (by decide) ?_
        refine lv_icmp_gt (tgt := 61) C.1.1 C.1.2.1 d_MD_isVersion_54 (by decide) (fun c22 => ?_) (fun c22 => ?_)
        · rw [if_pos c22] at hf
          refine W.widen (k := 0) (n := 0) (by decide) (by decide) ?_
          exact k_MD_isVersion_L61 C _ ih t0 y2 y3 h _ hf _ _ I ls (lv_sub hl [0, 1, 2] rfl)
        · rw [if_neg c22] at hf
          refine lv_iconst (v := 1) C.1.1 C.1.2.1 d_MD_isVersion_57 (by decide) ?_
          refine lv_goto (tgt := 62) C.1.1 C.1.2.1 d_MD_isVersion_58 (by decide) ?_
          refine W.widen (k := 0) (n := 0) (by decide) (by decide) ?_
          exact k_MD_isVersion_L62 C _ ih t0 y2 y3 (1 : Int32) h _ hf _ _ I ls (lv_sub hl [0, 1, 2] rfl)
set_option maxRecDepth 100000 in
set_option maxHeartbeats 4000000 in
theorem k_MD_isVersion (l : Launch) (G : hp_G) (B : Nat) (h : hp_H) (t0 : Nat) (p1 : Int32) (p2 : Int32) (out : Int32 × hp_H) (hf : f_MD_isVersion h t0 p1 p2 = some out) : Met l y_MD_isVersion (.code y_MD_isVersion b_MD_isVersion 5 ((Option.some Jvm.ClassFile.FieldType.boolean)) :: gt) ({ frames := 1, cells := 0, slots := 0, locals := 21 }) (hq_Pc G vwCl aTs B h [.ref t0, .int p1, .int p2]) (hq_Q G vwCl B (some (.int out.1)) out.2) 0 0 (fun q => B ≤ q) := by
  refine hq_enter (nL := 5) (by decide +kernel) (Nat.le_of_ble_eq_true rfl) ?_
  intro p e s m args below meth c C I ls hl
  have hl : lv_has ls 5 [(0, va_rf (some t0)), (1, .int p1), (2, .int p2)] := hl
  unfold f_MD_isVersion at hf
  refine lv_iload_n C.1.1 C.1.2.1 d_MD_isVersion_0 rfl (lv_at hl 2 rfl) ?_
  refine lv_iload_n C.1.1 C.1.2.1 d_MD_isVersion_1 rfl (lv_at hl 1 rfl) ?_
  refine lv_icmp_le (tgt := 26) C.1.1 C.1.2.1 d_MD_isVersion_2 (by decide) (fun c1 => ?_) (fun c1 => ?_)
  · rw [if_pos c1] at hf
    refine lv_iconst (v := 0) C.1.1 C.1.2.1 d_MD_isVersion_26 (by decide) ?_
    cases hf
    exact hq_zret C I (hp_z_nar (x := 0) (Or.inl rfl)).1 (by decide) (by decide) d_MD_isVersion_27
  · rw [if_neg c1] at hf
    refine lv_iload_n C.1.1 C.1.2.1 d_MD_isVersion_5 rfl (lv_at hl 2 rfl) ?_
    refine lv_iload_n C.1.1 C.1.2.1 d_MD_isVersion_6 rfl (lv_at hl 1 rfl) ?_
    refine lv_isub C.1.1 C.1.2.1 d_MD_isVersion_7 ?_
    refine lv_bipush (v := 12) C.1.1 C.1.2.1 d_MD_isVersion_8 (by decide) ?_
    refine lv_icmp_gt (tgt := 26) C.1.1 C.1.2.1 d_MD_isVersion_10 (by decide) (fun c2 => ?_) (fun c2 => ?_)
    · rw [if_pos c2] at hf
      refine lv_iconst (v := 0) C.1.1 C.1.2.1 d_MD_isVersion_26 (by decide) ?_
      cases hf
      exact hq_zret C I (hp_z_nar (x := 0) (Or.inl rfl)).1 (by decide) (by decide) d_MD_isVersion_27
    · rw [if_neg c2] at hf
      refine hq_aload_n C.1.1 C.1.2.1 d_MD_isVersion_13 rfl (lv_at hl 0 rfl) ?_
      refine hq_aload_n C.1.1 C.1.2.1 d_MD_isVersion_14 rfl (lv_at hl 0 rfl) ?_
      replace hf := Option.bind_eq_some_iff.mp hf
      obtain ⟨x3, e4, hf⟩ := hf
      refine hq_getR C I F_MD_20 e4 d_MD_isVersion_15 ?_
      refine lv_iload_n C.1.1 C.1.2.1 d_MD_isVersion_18 rfl (lv_at hl 1 rfl) ?_
      replace hf := Option.bind_eq_some_iff.mp hf
      obtain ⟨x5, e6, hf⟩ := hf
      refine hq_iald C I (t := 0) rfl e6 d_MD_isVersion_19 ?_
      replace hf := Option.bind_eq_some_iff.mp hf
      obtain ⟨b9, e10, hf⟩ := hf
      obtain ⟨e10r, _, e10c⟩ := hp_o_inv e10
      cases e10r
      replace hf := Option.bind_eq_some_iff.mp hf
      obtain ⟨q7, e8, hf⟩ := hf
      refine hq_callW gt_good C I hl.1 (k_MD_isDigit l G B _ t0 x5 q7 e8) M_MD_99 e10c rfl ⟨rfl, rfl⟩ ⟨Nat.le_of_ble_eq_true rfl, Nat.le_of_ble_eq_true rfl⟩ rfl (Nat.le_of_ble_eq_true rfl) d_MD_isVersion_20 ⟨Nat.le_of_ble_eq_true rfl, Nat.le_of_ble_eq_true rfl⟩ (fun H locs I => ?_)
      refine W.widen (k := 0) (n := 0) (by decide) (by decide) ?_
      refine lv_if_ne (tgt := 28) C.1.1 C.1.2.1 d_MD_isVersion_23 (by decide) (fun c11 => ?_) (fun c11 => ?_)
      · rw [if_neg c11] at hf
        refine lv_iload_n C.1.1 C.1.2.1 d_MD_isVersion_28 rfl (lv_at hl 1 rfl) ?_
        refine lv_istore_n (i := 3) (lv' := [(3, .int p1), (0, va_rf (some t0)), (1, .int p1), (2, .int p2)]) C.1.1 C.1.2.1 d_MD_isVersion_29 rfl hl (by decide) (by first | rfl | simp [hq_cat, hq_catI, hq_catL]) (fun ls hl => ?_)
        refine W.widen (k := 0) (n := 0) (by decide) (by decide) ?_
        exact k_MD_isVersion_L30 C FU t0 p2 p1 q7.2 _ hf _ _ I ls (lv_sub hl [1, 3, 0] rfl)
      · rw [if_pos c11] at hf
        refine lv_iconst (v := 0) C.1.1 C.1.2.1 d_MD_isVersion_26 (by decide) ?_
        cases hf
        exact hq_zret C I (hp_z_nar (x := 0) (Or.inl rfl)).1 (by decide) (by decide) d_MD_isVersion_27
set_option maxRecDepth 100000 in
set_option maxHeartbeats 4000000 in
theorem k_MD_commaIn_L2 {p : Program} {l : Launch} {e : Env} {s : State} {m : MethodId} {args : Array Value} {below : List Frame} {meth : Method} {c : Code} {G : hp_G} {B : Nat} (C : hq_C p s m args meth c b_MD_commaIn 4 ((Option.some Jvm.ClassFile.FieldType.int)) "LayeredLauncherModel" "commaIn" gt G vwCl aTs) : ∀ (n : Nat) (t0 : Nat) (y2 : Int32) (y3 : Int32) (h : hp_H) (out : Int32 × hp_H), f_MD_commaIn_L2 n t0 y2 y3 h = some out → ∀ (H : Heap) (locs : List Loc), hp_I G vwCl B s.heap h H locs → ∀ ls : Array Slot, lv_has ls 4 [(0, va_rf (some t0)), (2, .int y2), (3, .int y3)] → W p l e ({ frames := 0, cells := 0, slots := 0, locals := 0 }) s m args below meth c H locs 0 0 (MQ below (hq_Q G vwCl B (some (.int out.1)) out.2) args s 0 0 (fun q => B ≤ q)) (F0 m 2 ls []) := by
  intro n
  induction n with
  | zero => intro t0 y2 y3 h out hf; simp [f_MD_commaIn_L2] at hf
  | succ n ih =>
    intro t0 y2 y3 h out hf H locs I ls hl
    simp only [f_MD_commaIn_L2] at hf
    refine lv_iload_n C.1.1 C.1.2.1 d_MD_commaIn_2 rfl (lv_at hl 2 rfl) ?_
    refine lv_iload_n C.1.1 C.1.2.1 d_MD_commaIn_3 rfl (lv_at hl 1 rfl) ?_
    refine lv_icmp_ge (tgt := 24) C.1.1 C.1.2.1 d_MD_commaIn_4 (by decide) (fun c1 => ?_) (fun c1 => ?_)
    · rw [if_pos c1] at hf
      refine lv_iload_n C.1.1 C.1.2.1 d_MD_commaIn_24 rfl (lv_at hl 2 rfl) ?_
      cases hf
      exact hq_iret C I (by decide) (by decide) d_MD_commaIn_25
    · rw [if_neg c1] at hf
      refine hq_aload_n C.1.1 C.1.2.1 d_MD_commaIn_7 rfl (lv_at hl 0 rfl) ?_
      replace hf := Option.bind_eq_some_iff.mp hf
      obtain ⟨x2, e3, hf⟩ := hf
      refine hq_getR C I F_MD_20 e3 d_MD_commaIn_8 ?_
      refine lv_iload_n C.1.1 C.1.2.1 d_MD_commaIn_11 rfl (lv_at hl 2 rfl) ?_
      replace hf := Option.bind_eq_some_iff.mp hf
      obtain ⟨x4, e5, hf⟩ := hf
      refine hq_iald C I (t := 0) rfl e5 d_MD_commaIn_12 ?_
      refine lv_bipush (v := 44) C.1.1 C.1.2.1 d_MD_commaIn_13 (by decide) ?_
      refine lv_icmp_eq (tgt := 24) C.1.1 C.1.2.1 d_MD_commaIn_15 (by decide) (fun c6 => ?_) (fun c6 => ?_)
      · rw [if_pos c6] at hf
        refine lv_iload_n C.1.1 C.1.2.1 d_MD_commaIn_24 rfl (lv_at hl 2 rfl) ?_
        cases hf
        exact hq_iret C I (by decide) (by decide) d_MD_commaIn_25
      · rw [if_neg c6] at hf
        refine lv_iinc (v := (y3 + 1)) (lv' := [(3, .int (y3 + 1)), (0, va_rf (some t0)), (2, .int y2)]) C.1.1 C.1.2.1 d_MD_commaIn_18 hl (k := 2) rfl rfl (by decide) (by first | rfl | simp [hq_cat, hq_catI, hq_catL]) (fun ls hl => ?_)
        refine lv_goto (tgt := 2) C.1.1 C.1.2.1 d_MD_commaIn_21 (by decide) ?_
        refine W.widen (k := 0) (n := 0) (by decide) (by decide) ?_
        exact ih t0 y2 (y3 + 1) h _ hf _ _ I ls (lv_sub hl [1, 2, 0] rfl)
set_option maxRecDepth 100000 in
set_option maxHeartbeats 4000000 in
theorem k_MD_commaIn (l : Launch) (G : hp_G) (B : Nat) (h : hp_H) (t0 : Nat) (p1 : Int32) (p2 : Int32) (out : Int32 × hp_H) (hf : f_MD_commaIn h t0 p1 p2 = some out) : Met l y_MD_commaIn (.code y_MD_commaIn b_MD_commaIn 4 ((Option.some Jvm.ClassFile.FieldType.int)) :: gt) ({ frames := 0, cells := 0, slots := 0, locals := 0 }) (hq_Pc G vwCl aTs B h [.ref t0, .int p1, .int p2]) (hq_Q G vwCl B (some (.int out.1)) out.2) 0 0 (fun q => B ≤ q) := by
  refine hq_enter (nL := 4) (by decide +kernel) (Nat.le_of_ble_eq_true rfl) ?_
  intro p e s m args below meth c C I ls hl
  have hl : lv_has ls 4 [(0, va_rf (some t0)), (1, .int p1), (2, .int p2)] := hl
  unfold f_MD_commaIn at hf
  refine lv_iload_n C.1.1 C.1.2.1 d_MD_commaIn_0 rfl (lv_at hl 1 rfl) ?_
  refine lv_istore_n (i := 3) (lv' := [(3, .int p1), (0, va_rf (some t0)), (1, .int p1), (2, .int p2)]) C.1.1 C.1.2.1 d_MD_commaIn_1 rfl hl (by decide) (by first | rfl | simp [hq_cat, hq_catI, hq_catL]) (fun ls hl => ?_)
  refine W.widen (k := 0) (n := 0) (by decide) (by decide) ?_
  exact k_MD_commaIn_L2 C FU t0 p2 p1 h _ hf _ _ I ls (lv_sub hl [1, 3, 0] rfl)
