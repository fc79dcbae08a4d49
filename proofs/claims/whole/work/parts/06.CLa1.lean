set_option maxRecDepth 100000 in
set_option maxHeartbeats 4000000 in
theorem k_LN_takeVersion_L44 {p : Program} {l : Launch} {e : Env} {s : State} {m : MethodId} {args : Array Value} {below : List Frame} {meth : Method} {c : Code} {G : hp_G} {B : Nat} (C : hq_C p s m args meth c b_LN_takeVersion 2 ((Option.some (Jvm.ClassFile.FieldType.object "LayeredLauncher$Version"))) "LayeredLauncher$Line" "takeVersion" gt G vwCl aTs) : ∀ (t0 : Nat) (y1 : Int32) (h : hp_H) (out : Option Nat × hp_H), f_LN_takeVersion_L44 t0 y1 h = some out → ∀ (H : Heap) (locs : List Loc), hp_I G vwCl B s.heap h H locs → ∀ ls : Array Slot, lv_has ls 2 [(0, va_rf (some t0)), (1, .int y1)] → W p l e ({ frames := 2, cells := 2, slots := 13, locals := 49 }) s m args below meth c H locs 0 0 (MQ below (hq_Q G vwCl B (some (va_rf out.1)) out.2) args s 2 13 (fun q => B ≤ q)) (F0 m 44 ls []) := by
  intro t0 y1 h out hf H locs I ls hl
  unfold f_LN_takeVersion_L44 at hf
  refine hq_aload_n C.1.1 C.1.2.1 d_LN_takeVersion_44 rfl (lv_at hl 0 rfl) ?_
  refine lv_iload_n C.1.1 C.1.2.1 d_LN_takeVersion_45 rfl (lv_at hl 1 rfl) ?_
  refine hq_aload_n C.1.1 C.1.2.1 d_LN_takeVersion_46 rfl (lv_at hl 0 rfl) ?_
  replace hf := Option.bind_eq_some_iff.mp hf
  obtain ⟨x21, e22, hf⟩ := hf
  refine hq_getI C I F_LN_19 e22 d_LN_takeVersion_47 ?_
  replace hf := Option.bind_eq_some_iff.mp hf
  obtain ⟨b25, e26, hf⟩ := hf
  obtain ⟨e26r, _, e26c⟩ := hp_o_inv e26
  cases e26r
  replace hf := Option.bind_eq_some_iff.mp hf
  obtain ⟨q23, e24, hf⟩ := hf
  refine hq_callW gt_good C I hl.1 (k_LN_isVersion l G B _ t0 y1 x21 q23 e24) M_LN_60 e26c rfl ⟨rfl, rfl⟩ ⟨Nat.le_of_ble_eq_true rfl, Nat.le_of_ble_eq_true rfl⟩ rfl (Nat.le_of_ble_eq_true rfl) d_LN_takeVersion_50 ⟨Nat.le_of_ble_eq_true rfl, Nat.le_of_ble_eq_true rfl⟩ (fun H locs I => ?_)
  refine W.widen (k := 0) (n := 0) (by decide) (by decide) ?_
  refine lv_if_eq (tgt := 75) C.1.1 C.1.2.1 d_LN_takeVersion_53 (by decide) (fun c27 => ?_) (fun c27 => ?_)
  · rw [if_pos c27] at hf
    refine lv_null C.1.1 C.1.2.1 d_LN_takeVersion_75 ?_
    cases hf
    exact hq_aret C I (Or.inl ⟨_, rfl⟩) (by decide) (by decide) d_LN_takeVersion_76
  · rw [if_neg c27] at hf
    refine hq_new C I K_VS g187 g188 g41 (fs := [.null]) (fun j hj => born_VS j hj) (Nat.le_of_ble_eq_true rfl) (Nat.le_of_ble_eq_true rfl) d_LN_takeVersion_56 (fun H I => ?_)
    refine W.widen (k := 1) (n := 1) (by decide) (by decide) ?_
    replace hf := Option.bind_eq_some_iff.mp hf
    obtain ⟨h30, e29, hf⟩ := hf
    rw [Option.some.inj e29] at I
    refine lv_dup C.1.1 C.1.2.1 d_LN_takeVersion_59 (hq_cat _) ?_
    refine hq_aload_n C.1.1 C.1.2.1 d_LN_takeVersion_60 rfl (lv_at hl 0 rfl) ?_
    replace hf := Option.bind_eq_some_iff.mp hf
    obtain ⟨x31, e32, hf⟩ := hf
    refine hq_getR C I F_LN_9 e32 d_LN_takeVersion_61 ?_
    refine lv_iload_n C.1.1 C.1.2.1 d_LN_takeVersion_64 rfl (lv_at hl 1 rfl) ?_
    refine hq_aload_n C.1.1 C.1.2.1 d_LN_takeVersion_65 rfl (lv_at hl 0 rfl) ?_
    replace hf := Option.bind_eq_some_iff.mp hf
    obtain ⟨x33, e34, hf⟩ := hf
    refine hq_getI C I F_LN_19 e34 d_LN_takeVersion_66 ?_
    replace hf := Option.bind_eq_some_iff.mp hf
    obtain ⟨q35, e36, hf⟩ := hf
    refine hq_callI gt_good C I hl.1 (k_VS_init l G B _ q23.2.2 x31 y1 x33 q35 e36) M_LN_66 ⟨rfl, rfl⟩ ⟨Nat.le_of_ble_eq_true rfl, Nat.le_of_ble_eq_true rfl⟩ rfl (by simp [hq_cat, hq_catI, hq_catL]) d_LN_takeVersion_69 ⟨Nat.le_of_ble_eq_true rfl, Nat.le_of_ble_eq_true rfl⟩ (fun H locs I => ?_)
    refine W.widen (k := 2) (n := 13) (by decide) (by decide) ?_
    refine lv_goto (tgt := 76) C.1.1 C.1.2.1 d_LN_takeVersion_72 (by decide) ?_
    cases hf
    exact hq_aret C I (Or.inl ⟨_, rfl⟩) (by decide) (by decide) d_LN_takeVersion_76
set_option maxRecDepth 100000 in
set_option maxHeartbeats 4000000 in
theorem k_LN_takeVersion_L5 {p : Program} {l : Launch} {e : Env} {s : State} {m : MethodId} {args : Array Value} {below : List Frame} {meth : Method} {c : Code} {G : hp_G} {B : Nat} (C : hq_C p s m args meth c b_LN_takeVersion 2 ((Option.some (Jvm.ClassFile.FieldType.object "LayeredLauncher$Version"))) "LayeredLauncher$Line" "takeVersion" gt G vwCl aTs) : ∀ (n : Nat) (t0 : Nat) (y1 : Int32) (h : hp_H) (out : Option Nat × hp_H), f_LN_takeVersion_L5 n t0 y1 h = some out → ∀ (H : Heap) (locs : List Loc), hp_I G vwCl B s.heap h H locs → ∀ ls : Array Slot, lv_has ls 2 [(0, va_rf (some t0)), (1, .int y1)] → W p l e ({ frames := 2, cells := 2, slots := 13, locals := 49 }) s m args below meth c H locs 0 0 (MQ below (hq_Q G vwCl B (some (va_rf out.1)) out.2) args s 2 13 (fun q => B ≤ q)) (F0 m 5 ls []) := by
  intro n
  induction n with
  | zero => intro t0 y1 h out hf; simp [f_LN_takeVersion_L5] at hf
  | succ n ih =>
    intro t0 y1 h out hf H locs I ls hl
    simp only [f_LN_takeVersion_L5] at hf
    refine hq_aload_n C.1.1 C.1.2.1 d_LN_takeVersion_5 rfl (lv_at hl 0 rfl) ?_
    replace hf := Option.bind_eq_some_iff.mp hf
    obtain ⟨x3, e4, hf⟩ := hf
    refine hq_getI C I F_LN_19 e4 d_LN_takeVersion_6 ?_
    refine hq_aload_n C.1.1 C.1.2.1 d_LN_takeVersion_9 rfl (lv_at hl 0 rfl) ?_
    replace hf := Option.bind_eq_some_iff.mp hf
    obtain ⟨x5, e6, hf⟩ := hf
    refine hq_getI C I F_LN_15 e6 d_LN_takeVersion_10 ?_
    refine lv_icmp_ge (tgt := 44) C.1.1 C.1.2.1 d_LN_takeVersion_13 (by decide) (fun c7 => ?_) (fun c7 => ?_)
    · rw [if_pos c7] at hf
      refine W.widen (k := 0) (n := 0) (by decide) (by decide) ?_
      exact k_LN_takeVersion_L44 C t0 y1 h _ hf _ _ I ls (lv_sub hl [0, 1] rfl)
    · rw [if_neg c7] at hf
      refine hq_aload_n C.1.1 C.1.2.1 d_LN_takeVersion_16 rfl (lv_at hl 0 rfl) ?_
      replace hf := Option.bind_eq_some_iff.mp hf
      obtain ⟨x8, e9, hf⟩ := hf
      refine hq_getR C I F_LN_9 e9 d_LN_takeVersion_17 ?_
      refine hq_aload_n C.1.1 C.1.2.1 d_LN_takeVersion_20 rfl (lv_at hl 0 rfl) ?_
      replace hf := Option.bind_eq_some_iff.mp hf
      obtain ⟨x10, e11, hf⟩ := hf
      refine hq_getI C I F_LN_19 e11 d_LN_takeVersion_21 ?_
      replace hf := Option.bind_eq_some_iff.mp hf
      obtain ⟨x12, e13, hf⟩ := hf
      refine hq_cald C I (t := 2) rfl e13 d_LN_takeVersion_24 ?_
      replace hf := Option.bind_eq_some_iff.mp hf
      obtain ⟨q14, e15, hf⟩ := hf
      refine hq_callS gt_good C I hl.1 (k_LN_isOfVersion l G B _ x12 q14 e15) M_LN_57 ⟨rfl, rfl⟩ ⟨Nat.le_of_ble_eq_true rfl, Nat.le_of_ble_eq_true rfl⟩ rfl (Nat.le_of_ble_eq_true rfl) d_LN_takeVersion_25 ⟨Nat.le_of_ble_eq_true rfl, Nat.le_of_ble_eq_true rfl⟩ (fun H locs I => ?_)
      refine W.widen (k := 0) (n := 0) (by decide) (by decide) ?_
      refine lv_if_eq (tgt := 44) C.1.1 C.1.2.1 d_LN_takeVersion_28 (by decide) (fun c16 => ?_) (fun c16 => ?_)
      · rw [if_pos c16] at hf
        refine W.widen (k := 0) (n := 0) (by decide) (by decide) ?_
        exact k_LN_takeVersion_L44 C t0 y1 q14.2 _ hf _ _ I ls (lv_sub hl [0, 1] rfl)
      · rw [if_neg c16] at hf
        refine hq_aload_n C.1.1 C.1.2.1 d_LN_takeVersion_31 rfl (lv_at hl 0 rfl) ?_
        refine lv_dup C.1.1 C.1.2.1 d_LN_takeVersion_32 (hq_cat _) ?_
        replace hf := Option.bind_eq_some_iff.mp hf
        obtain ⟨x17, e18, hf⟩ := hf
        refine hq_getI C I F_LN_19 e18 d_LN_takeVersion_33 ?_
        refine lv_iconst (v := 1) C.1.1 C.1.2.1 d_LN_takeVersion_36 (by decide) ?_
        refine lv_iadd C.1.1 C.1.2.1 d_LN_takeVersion_37 ?_
        replace hf := Option.bind_eq_some_iff.mp hf
        obtain ⟨h19, e20, hf⟩ := hf
        refine hq_put C I F_LN_19 e20 rfl rfl d_LN_takeVersion_38 (fun H locs I => ?_)
        refine lv_goto (tgt := 5) C.1.1 C.1.2.1 d_LN_takeVersion_41 (by decide) ?_
        refine W.widen (k := 0) (n := 0) (by decide) (by decide) ?_
        exact ih t0 y1 h19 _ hf _ _ I ls (lv_sub hl [0, 1] rfl)
set_option maxRecDepth 100000 in
set_option maxHeartbeats 4000000 in
theorem k_LN_takeVersion (l : Launch) (G : hp_G) (B : Nat) (h : hp_H) (t0 : Nat) (out : Option Nat × hp_H) (hf : f_LN_takeVersion h t0 = some out) : Met l y_LN_takeVersion (.code y_LN_takeVersion b_LN_takeVersion 2 ((Option.some (Jvm.ClassFile.FieldType.object "LayeredLauncher$Version"))) :: gt) ({ frames := 2, cells := 2, slots := 13, locals := 49 }) (hq_Pc G vwCl aTs B h [.ref t0]) (hq_Q G vwCl B (some (va_rf out.1)) out.2) 2 13 (fun q => B ≤ q) := by
  refine hq_enter (nL := 2) (by decide +kernel) (Nat.le_of_ble_eq_true rfl) ?_
  intro p e s m args below meth c C I ls hl
  have hl : lv_has ls 2 [(0, va_rf (some t0))] := hl
  unfold f_LN_takeVersion at hf
  refine hq_aload_n C.1.1 C.1.2.1 d_LN_takeVersion_0 rfl (lv_at hl 0 rfl) ?_
  replace hf := Option.bind_eq_some_iff.mp hf
  obtain ⟨x1, e2, hf⟩ := hf
  refine hq_getI C I F_LN_19 e2 d_LN_takeVersion_1 ?_
  refine lv_istore_n (i := 1) (lv' := [(1, .int x1), (0, va_rf (some t0))]) C.1.1 C.1.2.1 d_LN_takeVersion_4 rfl hl (by decide) (by first | rfl | simp [hq_cat, hq_catI, hq_catL]) (fun ls hl => ?_)
  refine W.widen (k := 0) (n := 0) (by decide) (by decide) ?_
  exact k_LN_takeVersion_L5 C FU t0 x1 h _ hf _ _ I ls (lv_sub hl [1, 0] rfl)
set_option maxRecDepth 100000 in
set_option maxHeartbeats 4000000 in
theorem k_LN_copy (l : Launch) (G : hp_G) (B : Nat) (h : hp_H) (t0 : Nat) (out : Option Nat × hp_H) (hf : f_LN_copy h t0 = some out) : Met l y_LN_copy (.code y_LN_copy b_LN_copy 2 ((Option.some (Jvm.ClassFile.FieldType.array Jvm.ClassFile.FieldType.char))) :: gt) ({ frames := 1, cells := 1, slots := 40, locals := 60 }) (hq_Pc G vwCl aTs B h [.ref t0]) (hq_Q G vwCl B (some (va_rf out.1)) out.2) 1 40 (fun q => B ≤ q) := by
  refine hq_enter (nL := 2) (by decide +kernel) (Nat.le_of_ble_eq_true rfl) ?_
  intro p e s m args below meth c C I ls hl
  have hl : lv_has ls 2 [(0, va_rf (some t0))] := hl
  unfold f_LN_copy at hf
  refine hq_aload_n C.1.1 C.1.2.1 d_LN_copy_0 rfl (lv_at hl 0 rfl) ?_
  replace hf := Option.bind_eq_some_iff.mp hf
  obtain ⟨x1, e2, hf⟩ := hf
  refine hq_getI C I F_LN_15 e2 d_LN_copy_1 ?_
  replace hf := Option.bind_eq_some_iff.mp hf
  obtain ⟨N5, e6, hf⟩ := hf
  refine hq_newa C I (t := 2) (x := .inl (fun _ => 0)) rfl rfl g72 (mx := 40) (fun cA => rfl) (hp_nn_inv e6).1 (hp_nn_inv e6).2.1 (hp_nn_inv e6).2.2 (by decide) (Nat.le_of_ble_eq_true rfl) (Nat.le_of_ble_eq_true rfl) d_LN_copy_4 (fun H I => ?_)
  refine W.widen (k := 1) (n := 40) (by decide) (by decide) ?_
  replace hf := Option.bind_eq_some_iff.mp hf
  obtain ⟨h3, e4, hf⟩ := hf
  rw [Option.some.inj e4] at I
  refine hq_astore_n (r := (some h.2)) (i := 1) (lv' := [(1, va_rf (some h.2)), (0, va_rf (some t0))]) C.1.1 C.1.2.1 d_LN_copy_6 rfl hl (by decide) (by first | rfl | simp [hq_cat, hq_catI, hq_catL]) (fun ls hl => ?_)
  refine hq_aload_n C.1.1 C.1.2.1 d_LN_copy_7 rfl (lv_at hl 1 rfl) ?_
  replace hf := Option.bind_eq_some_iff.mp hf
  obtain ⟨x7, e8, hf⟩ := hf
  refine hq_getR C I F_LN_9 e8 d_LN_copy_8 ?_
  refine lv_iconst (v := 0) C.1.1 C.1.2.1 d_LN_copy_11 (by decide) ?_
  refine hq_aload_n C.1.1 C.1.2.1 d_LN_copy_12 rfl (lv_at hl 0 rfl) ?_
  refine lv_iconst (v := 0) C.1.1 C.1.2.1 d_LN_copy_13 (by decide) ?_
  refine hq_aload_n C.1.1 C.1.2.1 d_LN_copy_14 rfl (lv_at hl 1 rfl) ?_
  replace hf := Option.bind_eq_some_iff.mp hf
  obtain ⟨x9, e10, hf⟩ := hf
  refine hq_getI C I F_LN_15 e10 d_LN_copy_15 ?_
  replace hf := Option.bind_eq_some_iff.mp hf
  obtain ⟨h11, e12, hf⟩ := hf
  refine hq_copy C hl.1 I (t := 2) rfl rfl g209 g211 g210 g42 e12 (Nat.le_of_ble_eq_true rfl) (Nat.le_of_ble_eq_true rfl) d_LN_copy_18 (fun H locs I => ?_)
  refine hq_aload_n C.1.1 C.1.2.1 d_LN_copy_21 rfl (lv_at hl 0 rfl) ?_
  cases hf
  exact hq_aret C I (Or.inr ⟨_, rfl⟩) (by decide) (by decide) d_LN_copy_22
set_option maxRecDepth 100000 in
set_option maxHeartbeats 4000000 in
theorem k_LN_finishReading (l : Launch) (G : hp_G) (B : Nat) (h : hp_H) (t0 : Nat) (out : Int32 × hp_H) (hf : f_LN_finishReading h t0 = some out) : Met l y_LN_finishReading (.code y_LN_finishReading b_LN_finishReading 2 ((Option.some Jvm.ClassFile.FieldType.boolean)) :: gt) ({ frames := 1, cells := 0, slots := 0, locals := 20 }) (hq_Pc G vwCl aTs B h [.ref t0]) (hq_Q G vwCl B (some (.int out.1)) out.2) 0 0 (fun q => B ≤ q) := by
  refine hq_enter (nL := 2) (by decide +kernel) (Nat.le_of_ble_eq_true rfl) ?_
  intro p e s m args below meth c C I ls hl
  have hl : lv_has ls 2 [(0, va_rf (some t0))] := hl
  unfold f_LN_finishReading at hf
  refine hq_aload_n C.1.1 C.1.2.1 d_LN_finishReading_0 rfl (lv_at hl 0 rfl) ?_
  replace hf := Option.bind_eq_some_iff.mp hf
  obtain ⟨x1, e2, hf⟩ := hf
  refine hq_getI C I F_LN_19 e2 d_LN_finishReading_1 ?_
  refine hq_aload_n C.1.1 C.1.2.1 d_LN_finishReading_4 rfl (lv_at hl 0 rfl) ?_
  replace hf := Option.bind_eq_some_iff.mp hf
  obtain ⟨x3, e4, hf⟩ := hf
  refine hq_getI C I F_LN_15 e4 d_LN_finishReading_5 ?_
  refine lv_icmp_ne (tgt := 15) C.1.1 C.1.2.1 d_LN_finishReading_8 (by decide) (fun c5 => ?_) (fun c5 => ?_)
  · rw [if_neg c5] at hf
    refine lv_iconst (v := 0) C.1.1 C.1.2.1 d_LN_finishReading_15 (by decide) ?_
    refine lv_istore_n (i := 1) (lv' := [(1, .int (0 : Int32)), (0, va_rf (some t0))]) C.1.1 C.1.2.1 d_LN_finishReading_16 rfl hl (by decide) (by first | rfl | simp [hq_cat, hq_catI, hq_catL]) (fun ls hl => ?_)
    refine hq_aload_n C.1.1 C.1.2.1 d_LN_finishReading_17 rfl (lv_at hl 1 rfl) ?_
    replace hf := Option.bind_eq_some_iff.mp hf
    obtain ⟨b8, e9, hf⟩ := hf
    obtain ⟨e9r, _, e9c⟩ := hp_o_inv e9
    cases e9r
    replace hf := Option.bind_eq_some_iff.mp hf
    obtain ⟨q6, e7, hf⟩ := hf
    refine hq_callW gt_good C I hl.1 (k_LN_clear l G B _ t0 q6 e7) M_LN_28 e9c rfl ⟨rfl, rfl⟩ ⟨Nat.le_of_ble_eq_true rfl, Nat.le_of_ble_eq_true rfl⟩ rfl (Nat.le_of_ble_eq_true rfl) d_LN_finishReading_18 ⟨Nat.le_of_ble_eq_true rfl, Nat.le_of_ble_eq_true rfl⟩ (fun H locs I => ?_)
    refine W.widen (k := 0) (n := 0) (by decide) (by decide) ?_
    refine lv_iload_n C.1.1 C.1.2.1 d_LN_finishReading_21 rfl (lv_at hl 0 rfl) ?_
    cases hf
    exact hq_zret C I (hp_z_nar (x := 0) (Or.inl rfl)).1 (by decide) (by decide) d_LN_finishReading_22
  · rw [if_pos c5] at hf
    refine lv_iconst (v := 1) C.1.1 C.1.2.1 d_LN_finishReading_11 (by decide) ?_
    refine lv_goto (tgt := 16) C.1.1 C.1.2.1 d_LN_finishReading_12 (by decide) ?_
    refine lv_istore_n (i := 1) (lv' := [(1, .int (1 : Int32)), (0, va_rf (some t0))]) C.1.1 C.1.2.1 d_LN_finishReading_16 rfl hl (by decide) (by first | rfl | simp [hq_cat, hq_catI, hq_catL]) (fun ls hl => ?_)
    refine hq_aload_n C.1.1 C.1.2.1 d_LN_finishReading_17 rfl (lv_at hl 1 rfl) ?_
    replace hf := Option.bind_eq_some_iff.mp hf
    obtain ⟨b12, e13, hf⟩ := hf
    obtain ⟨e13r, _, e13c⟩ := hp_o_inv e13
    cases e13r
    replace hf := Option.bind_eq_some_iff.mp hf
    obtain ⟨q10, e11, hf⟩ := hf
    refine hq_callW gt_good C I hl.1 (k_LN_clear l G B _ t0 q10 e11) M_LN_28 e13c rfl ⟨rfl, rfl⟩ ⟨Nat.le_of_ble_eq_true rfl, Nat.le_of_ble_eq_true rfl⟩ rfl (Nat.le_of_ble_eq_true rfl) d_LN_finishReading_18 ⟨Nat.le_of_ble_eq_true rfl, Nat.le_of_ble_eq_true rfl⟩ (fun H locs I => ?_)
    refine W.widen (k := 0) (n := 0) (by decide) (by decide) ?_
    refine lv_iload_n C.1.1 C.1.2.1 d_LN_finishReading_21 rfl (lv_at hl 0 rfl) ?_
    cases hf
    exact hq_zret C I (hp_z_nar (x := 1) (Or.inr rfl)).1 (by decide) (by decide) d_LN_finishReading_22
set_option maxRecDepth 100000 in
set_option maxHeartbeats 4000000 in
theorem k_RG_init (l : Launch) (G : hp_G) (B : Nat) (h : hp_H) (t0 : Nat) (p1 : Int32) (p2 : Option Nat) (p3 : Int32) (p4 : Option Nat) (p5 : Int32) (out : hp_H) (hf : f_RG_init h t0 p1 p2 p3 p4 p5 = some out) : Met l y_RG_init (.code y_RG_init b_RG_init 6 ((Option.none : Option Jvm.ClassFile.FieldType)) :: gt) ({ frames := 1, cells := 0, slots := 0, locals := 20 }) (hq_Pc G vwCl aTs B h [.ref t0, .int p1, va_rf p2, .int p3, va_rf p4, .int p5]) (hq_Q G vwCl B none out) 0 0 (fun q => B ≤ q) := by
  refine hq_enter (nL := 6) (by decide +kernel) (by simp [lg_sl, hq_cat, hq_catI, hq_catL, hq_catR]) ?_
  intro p e s m args below meth c C I ls hl
  have hl : lv_has ls 6 [(0, va_rf (some t0)), (1, .int p1), (2, va_rf p2), (3, .int p3), (4, va_rf p4), (5, .int p5)] := by simp [lv_args, hq_cat, hq_catI, hq_catL, hq_catR] at hl; exact hl
  unfold f_RG_init at hf
  refine hq_aload_n C.1.1 C.1.2.1 d_RG_init_0 rfl (lv_at hl 0 rfl) ?_
  refine W.objInit C.1.1 C.1.2.1 C.1.2.2.2.1 (C.1.2.2.2.2 _ g225) (C.1.2.2.2.2 _ g53) (C.1.2.2.2.2 _ g54) rfl (by rw [C.1.2.2.1]; exact hl.1) rfl d_RG_init_1 (Nat.le_of_ble_eq_true rfl) (Nat.le_of_ble_eq_true rfl) ?_
  refine W.eq (g2 := F0 m 4 ls []) rfl ?_
  refine hq_aload_n C.1.1 C.1.2.1 d_RG_init_4 rfl (lv_at hl 0 rfl) ?_
  refine lv_iload_n C.1.1 C.1.2.1 d_RG_init_5 rfl (lv_at hl 1 rfl) ?_
  replace hf := Option.bind_eq_some_iff.mp hf
  obtain ⟨z3, e4, hf⟩ := hf
  obtain ⟨rfl, e4⟩ := hp_z_inv e4
  replace hf := Option.bind_eq_some_iff.mp hf
  obtain ⟨h1, e2, hf⟩ := hf
  refine hq_putF C I F_RG_7 (fun r hr => by cases hr; rfl) e2 (hp_z_nar e4).1 (hp_z_nar e4).2 d_RG_init_6 (fun H locs I => ?_)
  refine hq_aload_n C.1.1 C.1.2.1 d_RG_init_9 rfl (lv_at hl 0 rfl) ?_
  refine hq_aload_n C.1.1 C.1.2.1 d_RG_init_10 rfl (lv_at hl 2 rfl) ?_
  replace hf := Option.bind_eq_some_iff.mp hf
  obtain ⟨h5, e6, hf⟩ := hf
  refine hq_putF C I F_RG_13 (fun r hr => by cases hr; rfl) e6 (hq_rff _ _).1 (hq_rff _ _).2 d_RG_init_11 (fun H locs I => ?_)
  refine hq_aload_n C.1.1 C.1.2.1 d_RG_init_14 rfl (lv_at hl 0 rfl) ?_
  refine lv_iload_n C.1.1 C.1.2.1 d_RG_init_15 rfl (lv_at hl 3 rfl) ?_
  replace hf := Option.bind_eq_some_iff.mp hf
  obtain ⟨z9, e10, hf⟩ := hf
  obtain ⟨rfl, e10⟩ := hp_z_inv e10
  replace hf := Option.bind_eq_some_iff.mp hf
  obtain ⟨h7, e8, hf⟩ := hf
  refine hq_putF C I F_RG_17 (fun r hr => by cases hr; rfl) e8 (hp_z_nar e10).1 (hp_z_nar e10).2 d_RG_init_16 (fun H locs I => ?_)
  refine hq_aload_n C.1.1 C.1.2.1 d_RG_init_19 rfl (lv_at hl 0 rfl) ?_
  refine hq_aload C.1.1 C.1.2.1 d_RG_init_20 (lv_at hl 4 rfl) ?_
  replace hf := Option.bind_eq_some_iff.mp hf
  obtain ⟨h11, e12, hf⟩ := hf
  refine hq_putF C I F_RG_20 (fun r hr => by cases hr; rfl) e12 (hq_rff _ _).1 (hq_rff _ _).2 d_RG_init_22 (fun H locs I => ?_)
  refine hq_aload_n C.1.1 C.1.2.1 d_RG_init_25 rfl (lv_at hl 0 rfl) ?_
  refine lv_iload C.1.1 C.1.2.1 d_RG_init_26 (lv_at hl 5 rfl) ?_
  replace hf := Option.bind_eq_some_iff.mp hf
  obtain ⟨z15, e16, hf⟩ := hf
  obtain ⟨rfl, e16⟩ := hp_z_inv e16
  replace hf := Option.bind_eq_some_iff.mp hf
  obtain ⟨h13, e14, hf⟩ := hf
  refine hq_putF C I F_RG_23 (fun r hr => by cases hr; rfl) e14 (hp_z_nar e16).1 (hp_z_nar e16).2 d_RG_init_28 (fun H locs I => ?_)
  cases hf
  exact hq_vret C I (by decide) (by decide) d_RG_init_31
set_option maxRecDepth 100000 in
set_option maxHeartbeats 4000000 in
theorem k_RG_exactly (l : Launch) (G : hp_G) (B : Nat) (h : hp_H) (p0 : Option Nat) (p1 : Int32) (out : Option Nat × hp_H) (hf : f_RG_exactly h p0 p1 = some out) : Met l y_RG_exactly (.code y_RG_exactly b_RG_exactly 2 ((Option.some (Jvm.ClassFile.FieldType.object "LayeredLauncher$Range"))) :: gt) ({ frames := 2, cells := 1, slots := 5, locals := 45 }) (hq_Pc G vwCl aTs B h [va_rf p0, .int p1]) (hq_Q G vwCl B (some (va_rf out.1)) out.2) 1 5 (fun q => B ≤ q) := by
  refine hq_enter (nL := 2) (by decide +kernel) (by simp [lg_sl, hq_cat, hq_catI, hq_catL, hq_catR]) ?_
  intro p e s m args below meth c C I ls hl
  have hl : lv_has ls 2 [(0, va_rf p0), (1, .int p1)] := by simp [lv_args, hq_cat, hq_catI, hq_catL, hq_catR] at hl; exact hl
  unfold f_RG_exactly at hf
  refine hq_new C I K_RG g220 g221 g43 (fs := [.int 0, .null, .int 0, .null, .int 0]) (fun j hj => born_RG j hj) (Nat.le_of_ble_eq_true rfl) (Nat.le_of_ble_eq_true rfl) d_RG_exactly_0 (fun H I => ?_)
  refine W.widen (k := 1) (n := 5) (by decide) (by decide) ?_
  replace hf := Option.bind_eq_some_iff.mp hf
  obtain ⟨h3, e2, hf⟩ := hf
  rw [Option.some.inj e2] at I
  refine lv_dup C.1.1 C.1.2.1 d_RG_exactly_3 (hq_cat _) ?_
  refine lv_iload_n C.1.1 C.1.2.1 d_RG_exactly_4 rfl (lv_at hl 1 rfl) ?_
  refine hq_aload_n C.1.1 C.1.2.1 d_RG_exactly_5 rfl (lv_at hl 0 rfl) ?_
  refine lv_iconst (v := 0) C.1.1 C.1.2.1 d_RG_exactly_6 (by decide) ?_
  refine hq_aload_n C.1.1 C.1.2.1 d_RG_exactly_7 rfl (lv_at hl 0 rfl) ?_
  refine lv_iconst (v := 0) C.1.1 C.1.2.1 d_RG_exactly_8 (by decide) ?_
  replace hf := Option.bind_eq_some_iff.mp hf
  obtain ⟨q4, e5, hf⟩ := hf
  refine hq_callI gt_good C I hl.1 (k_RG_init l G B _ h.2 p1 p0 (0 : Int32) p0 (0 : Int32) q4 e5) M_RG_26 ⟨rfl, rfl⟩ ⟨Nat.le_of_ble_eq_true rfl, Nat.le_of_ble_eq_true rfl⟩ rfl (by simp [hq_cat, hq_catI, hq_catL]) d_RG_exactly_9 ⟨Nat.le_of_ble_eq_true rfl, Nat.le_of_ble_eq_true rfl⟩ (fun H locs I => ?_)
  refine W.widen (k := 1) (n := 5) (by decide) (by decide) ?_
  cases hf
  exact hq_aret C I (Or.inl ⟨_, rfl⟩) (by decide) (by decide) d_RG_exactly_12
set_option maxRecDepth 100000 in
set_option maxHeartbeats 4000000 in
theorem k_VS_orderAgainst_L2 {p : Program} {l : Launch} {e : Env} {s : State} {m : MethodId} {args : Array Value} {below : List Frame} {meth : Method} {c : Code} {G : hp_G} {B : Nat} (C : hq_C p s m args meth c b_VS_orderAgainst 3 ((Option.some Jvm.ClassFile.FieldType.int)) "LayeredLauncher$Version" "orderAgainst" gt G vwCl aTs) : ∀ (n : Nat) (t0 : Nat) (y1 : Option Nat) (y2 : Int32) (h : hp_H) (out : Int32 × hp_H), f_VS_orderAgainst_L2 n t0 y1 y2 h = some out → ∀ (H : Heap) (locs : List Loc), hp_I G vwCl B s.heap h H locs → ∀ ls : Array Slot, lv_has ls 3 [(0, va_rf (some t0)), (1, va_rf y1), (2, .int y2)] → W p l e ({ frames := 0, cells := 0, slots := 0, locals := 0 }) s m args below meth c H locs 0 0 (MQ below (hq_Q G vwCl B (some (.int out.1)) out.2) args s 0 0 (fun q => B ≤ q)) (F0 m 2 ls []) := by
  intro n
  induction n with
  | zero => intro t0 y1 y2 h out hf; simp [f_VS_orderAgainst_L2] at hf
  | succ n ih =>
    intro t0 y1 y2 h out hf H locs I ls hl
    simp only [f_VS_orderAgainst_L2] at hf
    refine lv_iload_n C.1.1 C.1.2.1 d_VS_orderAgainst_2 rfl (lv_at hl 2 rfl) ?_
    refine lv_bipush (v := 12) C.1.1 C.1.2.1 d_VS_orderAgainst_3 (by decide) ?_
    refine lv_icmp_ge (tgt := 52) C.1.1 C.1.2.1 d_VS_orderAgainst_5 (by decide) (fun c1 => ?_) (fun c1 => ?_)
    · rw [if_pos c1] at hf
      refine lv_iconst (v := 0) C.1.1 C.1.2.1 d_VS_orderAgainst_52 (by decide) ?_
      cases hf
      exact hq_iret C I (by decide) (by decide) d_VS_orderAgainst_53
    · rw [if_neg c1] at hf
      refine hq_aload_n C.1.1 C.1.2.1 d_VS_orderAgainst_8 rfl (lv_at hl 0 rfl) ?_
      replace hf := Option.bind_eq_some_iff.mp hf
      obtain ⟨x2, e3, hf⟩ := hf
      refine hq_getR C I F_VS_9 e3 d_VS_orderAgainst_9 ?_
      refine lv_iload_n C.1.1 C.1.2.1 d_VS_orderAgainst_12 rfl (lv_at hl 2 rfl) ?_
      replace hf := Option.bind_eq_some_iff.mp hf
      obtain ⟨x4, e5, hf⟩ := hf
      refine hq_lald C I (t := 1) rfl e5 d_VS_orderAgainst_13 ?_
      refine hq_aload_n C.1.1 C.1.2.1 d_VS_orderAgainst_14 rfl (lv_at hl 1 rfl) ?_
      replace hf := Option.bind_eq_some_iff.mp hf
      obtain ⟨x6, e7, hf⟩ := hf
      refine hq_getR C I F_VS_9 e7 d_VS_orderAgainst_15 ?_
      refine lv_iload_n C.1.1 C.1.2.1 d_VS_orderAgainst_18 rfl (lv_at hl 2 rfl) ?_
      replace hf := Option.bind_eq_some_iff.mp hf
      obtain ⟨x8, e9, hf⟩ := hf
      refine hq_lald C I (t := 1) rfl e9 d_VS_orderAgainst_19 ?_
      refine W.lcmp C.1.1 C.1.2.1 d_VS_orderAgainst_20 ?_
      refine lv_if_eq (tgt := 46) C.1.1 C.1.2.1 d_VS_orderAgainst_21 (by decide) (fun c10 => ?_) (fun c10 => ?_)
      · rw [if_pos c10] at hf
        refine lv_iinc (v := (y2 + 1)) (lv' := [(2, .int (y2 + 1)), (0, va_rf (some t0)), (1, va_rf y1)]) C.1.1 C.1.2.1 d_VS_orderAgainst_46 hl (k := 2) rfl rfl (by decide) (by first | rfl | simp [hq_cat, hq_catI, hq_catL]) (fun ls hl => ?_)
        refine lv_goto (tgt := 2) C.1.1 C.1.2.1 d_VS_orderAgainst_49 (by decide) ?_
        refine W.widen (k := 0) (n := 0) (by decide) (by decide) ?_
        exact ih t0 y1 (y2 + 1) h _ hf _ _ I ls (lv_sub hl [1, 2, 0] rfl)
      · rw [if_neg c10] at hf
        refine hq_aload_n C.1.1 C.1.2.1 d_VS_orderAgainst_24 rfl (lv_at hl 0 rfl) ?_
        replace hf := Option.bind_eq_some_iff.mp hf
        obtain ⟨x11, e12, hf⟩ := hf
        refine hq_getR C I F_VS_9 e12 d_VS_orderAgainst_25 ?_
        refine lv_iload_n C.1.1 C.1.2.1 d_VS_orderAgainst_28 rfl (lv_at hl 2 rfl) ?_
        replace hf := Option.bind_eq_some_iff.mp hf
        obtain ⟨x13, e14, hf⟩ := hf
        refine hq_lald C I (t := 1) rfl e14 d_VS_orderAgainst_29 ?_
        refine hq_aload_n C.1.1 C.1.2.1 d_VS_orderAgainst_30 rfl (lv_at hl 1 rfl) ?_
        replace hf := Option.bind_eq_some_iff.mp hf
        obtain ⟨x15, e16, hf⟩ := hf
        refine hq_getR C I F_VS_9 e16 d_VS_orderAgainst_31 ?_
        refine lv_iload_n C.1.1 C.1.2.1 d_VS_orderAgainst_34 rfl (lv_at hl 2 rfl) ?_
        replace hf := Option.bind_eq_some_iff.mp hf
        obtain ⟨x17, e18, hf⟩ := hf
        refine hq_lald C I (t := 1) rfl e18 d_VS_orderAgainst_35 ?_
        refine W.lcmp C.1.1 C.1.2.1 d_VS_orderAgainst_36 ?_
        refine lv_if_ge (tgt := 44) C.1.1 C.1.2.1 d_VS_orderAgainst_37 (by decide) (fun c19 => ?_) (fun c19 => ?_)
        · rw [if_pos c19] at hf
          refine lv_iconst (v := 1) C.1.1 C.1.2.1 d_VS_orderAgainst_44 (by decide) ?_
          cases hf
          exact hq_iret C I (by decide) (by decide) d_VS_orderAgainst_45
        · rw [if_neg c19] at hf
          refine lv_iconst (v := -1) C.1.1 C.1.2.1 d_VS_orderAgainst_40 (by decide) ?_
          refine lv_goto (tgt := 45) C.1.1 C.1.2.1 d_VS_orderAgainst_41 (by decide) ?_
          cases hf
          exact hq_iret C I (by decide) (by decide) d_VS_orderAgainst_45
set_option maxRecDepth 100000 in
set_option maxHeartbeats 4000000 in
theorem k_VS_orderAgainst (l : Launch) (G : hp_G) (B : Nat) (h : hp_H) (t0 : Nat) (p1 : Option Nat) (out : Int32 × hp_H) (hf : f_VS_orderAgainst h t0 p1 = some out) : Met l y_VS_orderAgainst (.code y_VS_orderAgainst b_VS_orderAgainst 3 ((Option.some Jvm.ClassFile.FieldType.int)) :: gt) ({ frames := 0, cells := 0, slots := 0, locals := 0 }) (hq_Pc G vwCl aTs B h [.ref t0, va_rf p1]) (hq_Q G vwCl B (some (.int out.1)) out.2) 0 0 (fun q => B ≤ q) := by
  refine hq_enter (nL := 3) (by decide +kernel) (by simp [lg_sl, hq_cat, hq_catI, hq_catL, hq_catR]) ?_
  intro p e s m args below meth c C I ls hl
  have hl : lv_has ls 3 [(0, va_rf (some t0)), (1, va_rf p1)] := by simp [lv_args, hq_cat, hq_catI, hq_catL, hq_catR] at hl; exact hl
  unfold f_VS_orderAgainst at hf
  refine lv_iconst (v := 0) C.1.1 C.1.2.1 d_VS_orderAgainst_0 (by decide) ?_
  refine lv_istore_n (i := 2) (lv' := [(2, .int (0 : Int32)), (0, va_rf (some t0)), (1, va_rf p1)]) C.1.1 C.1.2.1 d_VS_orderAgainst_1 rfl hl (by decide) (by first | rfl | simp [hq_cat, hq_catI, hq_catL]) (fun ls hl => ?_)
  refine W.widen (k := 0) (n := 0) (by decide) (by decide) ?_
  exact k_VS_orderAgainst_L2 C FU t0 p1 (0 : Int32) h _ hf _ _ I ls (lv_sub hl [1, 2, 0] rfl)
set_option maxRecDepth 100000 in
set_option maxHeartbeats 4000000 in
theorem k_RG_keepsLow (l : Launch) (G : hp_G) (B : Nat) (h : hp_H) (t0 : Nat) (p1 : Option Nat) (out : Int32 × hp_H) (hf : f_RG_keepsLow h t0 p1 = some out) : Met l y_RG_keepsLow (.code y_RG_keepsLow b_RG_keepsLow 3 ((Option.some Jvm.ClassFile.FieldType.boolean)) :: gt) ({ frames := 1, cells := 0, slots := 0, locals := 22 }) (hq_Pc G vwCl aTs B h [.ref t0, va_rf p1]) (hq_Q G vwCl B (some (.int out.1)) out.2) 0 0 (fun q => B ≤ q) := by
  refine hq_enter (nL := 3) (by decide +kernel) (by simp [lg_sl, hq_cat, hq_catI, hq_catL, hq_catR]) ?_
  intro p e s m args below meth c C I ls hl
  have hl : lv_has ls 3 [(0, va_rf (some t0)), (1, va_rf p1)] := by simp [lv_args, hq_cat, hq_catI, hq_catL, hq_catR] at hl; exact hl
  unfold f_RG_keepsLow at hf
  refine hq_aload_n C.1.1 C.1.2.1 d_RG_keepsLow_0 rfl (lv_at hl 0 rfl) ?_
  replace hf := Option.bind_eq_some_iff.mp hf
  obtain ⟨x1, e2, hf⟩ := hf
  refine hq_getR C I F_RG_13 e2 d_RG_keepsLow_1 ?_
  refine hq_ifnonnull (tgt := 9) C.1.1 C.1.2.1 d_RG_keepsLow_4 (by decide) (fun c3 => ?_) (fun c3 => ?_)
  · rw [if_neg c3] at hf
    refine hq_aload_n C.1.1 C.1.2.1 d_RG_keepsLow_9 rfl (lv_at hl 1 rfl) ?_
    refine hq_aload_n C.1.1 C.1.2.1 d_RG_keepsLow_10 rfl (lv_at hl 0 rfl) ?_
    replace hf := Option.bind_eq_some_iff.mp hf
    obtain ⟨x4, e5, hf⟩ := hf
    refine hq_getR C I F_RG_13 e5 d_RG_keepsLow_11 ?_
    replace hf := Option.bind_eq_some_iff.mp hf
    obtain ⟨b8, e9, hf⟩ := hf
    obtain ⟨e9r, _, e9c⟩ := hp_o_inv e9
    replace hf := Option.bind_eq_some_iff.mp hf
    obtain ⟨q6, e7, hf⟩ := hf
    refine hq_callW gt_good C I hl.1 (k_VS_orderAgainst l G B _ b8 x4 q6 e7) M_RG_36 e9c e9r ⟨rfl, rfl⟩ ⟨Nat.le_of_ble_eq_true rfl, Nat.le_of_ble_eq_true rfl⟩ rfl (Nat.le_of_ble_eq_true rfl) d_RG_keepsLow_14 ⟨Nat.le_of_ble_eq_true rfl, Nat.le_of_ble_eq_true rfl⟩ (fun H locs I => ?_)
    refine W.widen (k := 0) (n := 0) (by decide) (by decide) ?_
    refine lv_istore_n (i := 2) (lv' := [(2, .int q6.1), (0, va_rf (some t0)), (1, va_rf p1)]) C.1.1 C.1.2.1 d_RG_keepsLow_17 rfl hl (by decide) (by first | rfl | simp [hq_cat, hq_catI, hq_catL]) (fun ls hl => ?_)
    refine lv_iload_n C.1.1 C.1.2.1 d_RG_keepsLow_18 rfl (lv_at hl 0 rfl) ?_
    refine lv_if_gt (tgt := 33) C.1.1 C.1.2.1 d_RG_keepsLow_19 (by decide) (fun c10 => ?_) (fun c10 => ?_)
    · rw [if_pos c10] at hf
      refine lv_iconst (v := 1) C.1.1 C.1.2.1 d_RG_keepsLow_33 (by decide) ?_
      refine lv_goto (tgt := 38) C.1.1 C.1.2.1 d_RG_keepsLow_34 (by decide) ?_
      cases hf
      exact hq_zret C I (hp_z_nar (x := 1) (Or.inr rfl)).1 (by decide) (by decide) d_RG_keepsLow_38
    · rw [if_neg c10] at hf
      refine lv_iload_n C.1.1 C.1.2.1 d_RG_keepsLow_22 rfl (lv_at hl 0 rfl) ?_
      refine lv_if_ne (tgt := 37) C.1.1 C.1.2.1 d_RG_keepsLow_23 (by decide) (fun c11 => ?_) (fun c11 => ?_)
      · rw [if_neg c11] at hf
        refine lv_iconst (v := 0) C.1.1 C.1.2.1 d_RG_keepsLow_37 (by decide) ?_
        cases hf
        exact hq_zret C I (hp_z_nar (x := 0) (Or.inl rfl)).1 (by decide) (by decide) d_RG_keepsLow_38
      · rw [if_pos c11] at hf
        refine hq_aload_n C.1.1 C.1.2.1 d_RG_keepsLow_26 rfl (lv_at hl 1 rfl) ?_
        replace hf := Option.bind_eq_some_iff.mp hf
        obtain ⟨x12, e13, hf⟩ := hf
        refine hq_getI C I F_RG_17 e13 d_RG_keepsLow_27 ?_
        refine lv_if_ne (tgt := 37) C.1.1 C.1.2.1 d_RG_keepsLow_30 (by decide) (fun c14 => ?_) (fun c14 => ?_)
        · rw [if_neg c14] at hf
          refine lv_iconst (v := 0) C.1.1 C.1.2.1 d_RG_keepsLow_37 (by decide) ?_
          cases hf
          exact hq_zret C I (hp_z_nar (x := 0) (Or.inl rfl)).1 (by decide) (by decide) d_RG_keepsLow_38
        · rw [if_pos c14] at hf
          refine lv_iconst (v := 1) C.1.1 C.1.2.1 d_RG_keepsLow_33 (by decide) ?_
          refine lv_goto (tgt := 38) C.1.1 C.1.2.1 d_RG_keepsLow_34 (by decide) ?_
          cases hf
          exact hq_zret C I (hp_z_nar (x := 1) (Or.inr rfl)).1 (by decide) (by decide) d_RG_keepsLow_38
  · rw [if_pos c3] at hf
    refine lv_iconst (v := 1) C.1.1 C.1.2.1 d_RG_keepsLow_7 (by decide) ?_
    cases hf
    exact hq_zret C I (hp_z_nar (x := 1) (Or.inr rfl)).1 (by decide) (by decide) d_RG_keepsLow_8
set_option maxRecDepth 100000 in
set_option maxHeartbeats 4000000 in
theorem k_RG_keepsHigh (l : Launch) (G : hp_G) (B : Nat) (h : hp_H) (t0 : Nat) (p1 : Option Nat) (out : Int32 × hp_H) (hf : f_RG_keepsHigh h t0 p1 = some out) : Met l y_RG_keepsHigh (.code y_RG_keepsHigh b_RG_keepsHigh 3 ((Option.some Jvm.ClassFile.FieldType.boolean)) :: gt) ({ frames := 1, cells := 0, slots := 0, locals := 22 }) (hq_Pc G vwCl aTs B h [.ref t0, va_rf p1]) (hq_Q G vwCl B (some (.int out.1)) out.2) 0 0 (fun q => B ≤ q) := by
  refine hq_enter (nL := 3) (by decide +kernel) (by simp [lg_sl, hq_cat, hq_catI, hq_catL, hq_catR]) ?_
  intro p e s m args below meth c C I ls hl
  have hl : lv_has ls 3 [(0, va_rf (some t0)), (1, va_rf p1)] := by simp [lv_args, hq_cat, hq_catI, hq_catL, hq_catR] at hl; exact hl
  unfold f_RG_keepsHigh at hf
  refine hq_aload_n C.1.1 C.1.2.1 d_RG_keepsHigh_0 rfl (lv_at hl 0 rfl) ?_
  replace hf := Option.bind_eq_some_iff.mp hf
  obtain ⟨x1, e2, hf⟩ := hf
  refine hq_getR C I F_RG_20 e2 d_RG_keepsHigh_1 ?_
  refine hq_ifnonnull (tgt := 9) C.1.1 C.1.2.1 d_RG_keepsHigh_4 (by decide) (fun c3 => ?_) (fun c3 => ?_)
  · rw [if_neg c3] at hf
    refine hq_aload_n C.1.1 C.1.2.1 d_RG_keepsHigh_9 rfl (lv_at hl 1 rfl) ?_
    refine hq_aload_n C.1.1 C.1.2.1 d_RG_keepsHigh_10 rfl (lv_at hl 0 rfl) ?_
    replace hf := Option.bind_eq_some_iff.mp hf
    obtain ⟨x4, e5, hf⟩ := hf
    refine hq_getR C I F_RG_20 e5 d_RG_keepsHigh_11 ?_
    replace hf := Option.bind_eq_some_iff.mp hf
    obtain ⟨b8, e9, hf⟩ := hf
    obtain ⟨e9r, _, e9c⟩ := hp_o_inv e9
    replace hf := Option.bind_eq_some_iff.mp hf
    obtain ⟨q6, e7, hf⟩ := hf
    refine hq_callW gt_good C I hl.1 (k_VS_orderAgainst l G B _ b8 x4 q6 e7) M_RG_36 e9c e9r ⟨rfl, rfl⟩ ⟨Nat.le_of_ble_eq_true rfl, Nat.le_of_ble_eq_true rfl⟩ rfl (Nat.le_of_ble_eq_true rfl) d_RG_keepsHigh_14 ⟨Nat.le_of_ble_eq_true rfl, Nat.le_of_ble_eq_true rfl⟩ (fun H locs I => ?_)
    refine W.widen (k := 0) (n := 0) (by decide) (by decide) ?_
    refine lv_istore_n (i := 2) (lv' := [(2, .int q6.1), (0, va_rf (some t0)), (1, va_rf p1)]) C.1.1 C.1.2.1 d_RG_keepsHigh_17 rfl hl (by decide) (by first | rfl | simp [hq_cat, hq_catI, hq_catL]) (fun ls hl => ?_)
    refine lv_iload_n C.1.1 C.1.2.1 d_RG_keepsHigh_18 rfl (lv_at hl 0 rfl) ?_
    refine lv_if_lt (tgt := 33) C.1.1 C.1.2.1 d_RG_keepsHigh_19 (by decide) (fun c10 => ?_) (fun c10 => ?_)
    · rw [if_pos c10] at hf
      refine lv_iconst (v := 1) C.1.1 C.1.2.1 d_RG_keepsHigh_33 (by decide) ?_
      refine lv_goto (tgt := 38) C.1.1 C.1.2.1 d_RG_keepsHigh_34 (by decide) ?_
      cases hf
      exact hq_zret C I (hp_z_nar (x := 1) (Or.inr rfl)).1 (by decide) (by decide) d_RG_keepsHigh_38
    · rw [if_neg c10] at hf
      refine lv_iload_n C.1.1 C.1.2.1 d_RG_keepsHigh_22 rfl (lv_at hl 0 rfl) ?_
      refine lv_if_ne (tgt := 37) C.1.1 C.1.2.1 d_RG_keepsHigh_23 (by decide) (fun c11 => ?_) (fun c11 => ?_)
      · rw [if_neg c11] at hf
        refine lv_iconst (v := 0) C.1.1 C.1.2.1 d_RG_keepsHigh_37 (by decide) ?_
        cases hf
        exact hq_zret C I (hp_z_nar (x := 0) (Or.inl rfl)).1 (by decide) (by decide) d_RG_keepsHigh_38
      · rw [if_pos c11] at hf
        refine hq_aload_n C.1.1 C.1.2.1 d_RG_keepsHigh_26 rfl (lv_at hl 1 rfl) ?_
        replace hf := Option.bind_eq_some_iff.mp hf
        obtain ⟨x12, e13, hf⟩ := hf
        refine hq_getI C I F_RG_23 e13 d_RG_keepsHigh_27 ?_
        refine lv_if_ne (tgt := 37) C.1.1 C.1.2.1 d_RG_keepsHigh_30 (by decide) (fun c14 => ?_) (fun c14 => ?_)
        · rw [if_neg c14] at hf
          refine lv_iconst (v := 0) C.1.1 C.1.2.1 d_RG_keepsHigh_37 (by decide) ?_
          cases hf
          exact hq_zret C I (hp_z_nar (x := 0) (Or.inl rfl)).1 (by decide) (by decide) d_RG_keepsHigh_38
        · rw [if_pos c14] at hf
          refine lv_iconst (v := 1) C.1.1 C.1.2.1 d_RG_keepsHigh_33 (by decide) ?_
          refine lv_goto (tgt := 38) C.1.1 C.1.2.1 d_RG_keepsHigh_34 (by decide) ?_
          cases hf
          exact hq_zret C I (hp_z_nar (x := 1) (Or.inr rfl)).1 (by decide) (by decide) d_RG_keepsHigh_38
  · rw [if_pos c3] at hf
    refine lv_iconst (v := 1) C.1.1 C.1.2.1 d_RG_keepsHigh_7 (by decide) ?_
    cases hf
    exact hq_zret C I (hp_z_nar (x := 1) (Or.inr rfl)).1 (by decide) (by decide) d_RG_keepsHigh_8
set_option maxRecDepth 100000 in
set_option maxHeartbeats 4000000 in
theorem k_RG_holds (l : Launch) (G : hp_G) (B : Nat) (h : hp_H) (t0 : Nat) (p1 : Option Nat) (out : Int32 × hp_H) (hf : f_RG_holds h t0 p1 = some out) : Met l y_RG_holds (.code y_RG_holds b_RG_holds 2 ((Option.some Jvm.ClassFile.FieldType.boolean)) :: gt) ({ frames := 2, cells := 0, slots := 0, locals := 44 }) (hq_Pc G vwCl aTs B h [.ref t0, va_rf p1]) (hq_Q G vwCl B (some (.int out.1)) out.2) 0 0 (fun q => B ≤ q) := by
  refine hq_enter (nL := 2) (by decide +kernel) (by simp [lg_sl, hq_cat, hq_catI, hq_catL, hq_catR]) ?_
  intro p e s m args below meth c C I ls hl
  have hl : lv_has ls 2 [(0, va_rf (some t0)), (1, va_rf p1)] := by simp [lv_args, hq_cat, hq_catI, hq_catL, hq_catR] at hl; exact hl
  unfold f_RG_holds at hf
  refine hq_aload_n C.1.1 C.1.2.1 d_RG_holds_0 rfl (lv_at hl 0 rfl) ?_
  refine hq_aload_n C.1.1 C.1.2.1 d_RG_holds_1 rfl (lv_at hl 1 rfl) ?_
  replace hf := Option.bind_eq_some_iff.mp hf
  obtain ⟨b3, e4, hf⟩ := hf
  obtain ⟨e4r, _, e4c⟩ := hp_o_inv e4
  cases e4r
  replace hf := Option.bind_eq_some_iff.mp hf
  obtain ⟨q1, e2, hf⟩ := hf
  refine hq_callW gt_good C I hl.1 (k_RG_keepsLow l G B _ t0 p1 q1 e2) M_RG_29 e4c rfl ⟨rfl, rfl⟩ ⟨Nat.le_of_ble_eq_true rfl, Nat.le_of_ble_eq_true rfl⟩ rfl (Nat.le_of_ble_eq_true rfl) d_RG_holds_2 ⟨Nat.le_of_ble_eq_true rfl, Nat.le_of_ble_eq_true rfl⟩ (fun H locs I => ?_)
  refine W.widen (k := 0) (n := 0) (by decide) (by decide) ?_
  refine lv_if_eq (tgt := 20) C.1.1 C.1.2.1 d_RG_holds_5 (by decide) (fun c5 => ?_) (fun c5 => ?_)
  · rw [if_pos c5] at hf
    refine lv_iconst (v := 0) C.1.1 C.1.2.1 d_RG_holds_20 (by decide) ?_
    cases hf
    exact hq_zret C I (hp_z_nar (x := 0) (Or.inl rfl)).1 (by decide) (by decide) d_RG_holds_21
  · rw [if_neg c5] at hf
    refine hq_aload_n C.1.1 C.1.2.1 d_RG_holds_8 rfl (lv_at hl 0 rfl) ?_
    refine hq_aload_n C.1.1 C.1.2.1 d_RG_holds_9 rfl (lv_at hl 1 rfl) ?_
    replace hf := Option.bind_eq_some_iff.mp hf
    obtain ⟨b8, e9, hf⟩ := hf
    obtain ⟨e9r, _, e9c⟩ := hp_o_inv e9
    cases e9r
    replace hf := Option.bind_eq_some_iff.mp hf
    obtain ⟨q6, e7, hf⟩ := hf
    refine hq_callW gt_good C I hl.1 (k_RG_keepsHigh l G B _ t0 p1 q6 e7) M_RG_33 e9c rfl ⟨rfl, rfl⟩ ⟨Nat.le_of_ble_eq_true rfl, Nat.le_of_ble_eq_true rfl⟩ rfl (Nat.le_of_ble_eq_true rfl) d_RG_holds_10 ⟨Nat.le_of_ble_eq_true rfl, Nat.le_of_ble_eq_true rfl⟩ (fun H locs I => ?_)
    refine W.widen (k := 0) (n := 0) (by decide) (by decide) ?_
    refine lv_if_eq (tgt := 20) C.1.1 C.1.2.1 d_RG_holds_13 (by decide) (fun c10 => ?_) (fun c10 => ?_)
    · rw [if_pos c10] at hf
      refine lv_iconst (v := 0) C.1.1 C.1.2.1 d_RG_holds_20 (by decide) ?_
      cases hf
      exact hq_zret C I (hp_z_nar (x := 0) (Or.inl rfl)).1 (by decide) (by decide) d_RG_holds_21
    · rw [if_neg c10] at hf
      refine lv_iconst (v := 1) C.1.1 C.1.2.1 d_RG_holds_16 (by decide) ?_
      refine lv_goto (tgt := 21) C.1.1 C.1.2.1 d_RG_holds_17 (by decide) ?_
      cases hf
      exact hq_zret C I (hp_z_nar (x := 1) (Or.inr rfl)).1 (by decide) (by decide) d_RG_holds_21
set_option maxRecDepth 100000 in
set_option maxHeartbeats 4000000 in
theorem k_LL_pickFor_L59 {p : Program} {l : Launch} {e : Env} {s : State} {m : MethodId} {args : Array Value} {below : List Frame} {meth : Method} {c : Code} {G : hp_G} {B : Nat} (C : hq_C p s m args meth c b_LL_pickFor 8 ((Option.some (Jvm.ClassFile.FieldType.object "LayeredLauncher$Artifact"))) "LayeredLauncher" "pickFor" gt G vwCl aTs) (k6 : Nat → Int64 → Option Nat → Option Nat → Int32 → hp_H → Option (Option Nat × hp_H)) (hk6 : ∀ (t0 : Nat) (y1 : Int64) (y3 : Option Nat) (y4 : Option Nat) (y5 : Int32) (h : hp_H) (out : Option Nat × hp_H), k6 t0 y1 y3 y4 y5 h = some out → ∀ (H : Heap) (locs : List Loc), hp_I G vwCl B s.heap h H locs → ∀ ls : Array Slot, lv_has ls 8 [(0, va_rf (some t0)), (1, .long y1), (3, va_rf y3), (4, va_rf y4), (5, .int y5)] → W p l e ({ frames := 3, cells := 0, slots := 0, locals := 65 }) s m args below meth c H locs 0 0 (MQ below (hq_Q G vwCl B (some (va_rf out.1)) out.2) args s 0 0 (fun q => B ≤ q)) (F0 m 6 ls [])) : ∀ (t0 : Nat) (y1 : Int64) (y3 : Option Nat) (y4 : Option Nat) (y5 : Int32) (y6 : Option Nat) (s0 : Int32) (h : hp_H) (out : Option Nat × hp_H), f_LL_pickFor_L59 k6 t0 y1 y3 y4 y5 y6 s0 h = some out → ∀ (H : Heap) (locs : List Loc), hp_I G vwCl B s.heap h H locs → ∀ ls : Array Slot, lv_has ls 8 [(0, va_rf (some t0)), (1, .long y1), (3, va_rf y3), (4, va_rf y4), (5, .int y5), (6, va_rf y6)] → W p l e ({ frames := 3, cells := 0, slots := 0, locals := 65 }) s m args below meth c H locs 0 0 (MQ below (hq_Q G vwCl B (some (va_rf out.1)) out.2) args s 0 0 (fun q => B ≤ q)) (F0 m 59 ls [.int s0]) := by
  intro t0 y1 y3 y4 y5 y6 s0 h out hf H locs I ls hl
  unfold f_LL_pickFor_L59 at hf
  refine lv_istore (i := 7) (lv' := [(7, .int s0), (0, va_rf (some t0)), (1, .long y1), (3, va_rf y3), (4, va_rf y4), (5, .int y5), (6, va_rf y6)]) C.1.1 C.1.2.1 d_LL_pickFor_59 hl (by decide) (by first | rfl | simp [hq_cat, hq_catI, hq_catL]) (fun ls hl => ?_)
  refine lv_iload C.1.1 C.1.2.1 d_LL_pickFor_61 (lv_at hl 0 rfl) ?_
  refine lv_if_eq (tgt := 91) C.1.1 C.1.2.1 d_LL_pickFor_63 (by decide) (fun c21 => ?_) (fun c21 => ?_)
  · rw [if_pos c21] at hf
    refine lv_iinc (v := (y5 + 1)) (lv' := [(5, .int (y5 + 1)), (7, .int s0), (0, va_rf (some t0)), (1, .long y1), (3, va_rf y3), (4, va_rf y4), (6, va_rf y6)]) C.1.1 C.1.2.1 d_LL_pickFor_91 hl (k := 5) rfl rfl (by decide) (by first | rfl | simp [hq_cat, hq_catI, hq_catL]) (fun ls hl => ?_)
    refine lv_goto (tgt := 6) C.1.1 C.1.2.1 d_LL_pickFor_94 (by decide) ?_
    refine W.widen (k := 0) (n := 0) (by decide) (by decide) ?_
    exact hk6 t0 y1 y3 y4 (y5 + 1) h _ hf _ _ I ls (lv_sub hl [2, 3, 4, 5, 0] rfl)
  · rw [if_neg c21] at hf
    refine hq_aload C.1.1 C.1.2.1 d_LL_pickFor_66 (lv_at hl 4 rfl) ?_
    refine hq_ifnull (tgt := 87) C.1.1 C.1.2.1 d_LL_pickFor_68 (by decide) (fun c22 => ?_) (fun c22 => ?_)
    · rw [if_pos c22] at hf
      refine hq_aload C.1.1 C.1.2.1 d_LL_pickFor_87 (lv_at hl 6 rfl) ?_
      refine hq_astore (r := y6) (i := 4) (lv' := [(4, va_rf y6), (7, .int s0), (0, va_rf (some t0)), (1, .long y1), (3, va_rf y3), (5, .int y5), (6, va_rf y6)]) C.1.1 C.1.2.1 d_LL_pickFor_89 hl (by decide) (by first | rfl | simp [hq_cat, hq_catI, hq_catL]) (fun ls hl => ?_)
      refine lv_iinc (v := (y5 + 1)) (lv' := [(5, .int (y5 + 1)), (4, va_rf y6), (7, .int s0), (0, va_rf (some t0)), (1, .long y1), (3, va_rf y3), (6, va_rf y6)]) C.1.1 C.1.2.1 d_LL_pickFor_91 hl (k := 5) rfl rfl (by decide) (by first | rfl | simp [hq_cat, hq_catI, hq_catL]) (fun ls hl => ?_)
      refine lv_goto (tgt := 6) C.1.1 C.1.2.1 d_LL_pickFor_94 (by decide) ?_
      refine W.widen (k := 0) (n := 0) (by decide) (by decide) ?_
      exact hk6 t0 y1 y3 y6 (y5 + 1) h _ hf _ _ I ls (lv_sub hl [3, 4, 5, 1, 0] rfl)
    · rw [if_neg c22] at hf
      refine hq_aload C.1.1 C.1.2.1 d_LL_pickFor_71 (lv_at hl 6 rfl) ?_
      replace hf := Option.bind_eq_some_iff.mp hf
      obtain ⟨x23, e24, hf⟩ := hf
      refine hq_getR C I F_LL_177 e24 d_LL_pickFor_73 ?_
      refine hq_aload C.1.1 C.1.2.1 d_LL_pickFor_76 (lv_at hl 4 rfl) ?_
      replace hf := Option.bind_eq_some_iff.mp hf
      obtain ⟨x25, e26, hf⟩ := hf
      refine hq_getR C I F_LL_177 e26 d_LL_pickFor_78 ?_
      replace hf := Option.bind_eq_some_iff.mp hf
      obtain ⟨b29, e30, hf⟩ := hf
      obtain ⟨e30r, _, e30c⟩ := hp_o_inv e30
      replace hf := Option.bind_eq_some_iff.mp hf
      obtain ⟨q27, e28, hf⟩ := hf
      refine hq_callW gt_good C I hl.1 (k_VS_orderAgainst l G B _ b29 x25 q27 e28) M_LL_128 e30c e30r ⟨rfl, rfl⟩ ⟨Nat.le_of_ble_eq_true rfl, Nat.le_of_ble_eq_true rfl⟩ rfl (Nat.le_of_ble_eq_true rfl) d_LL_pickFor_81 ⟨Nat.le_of_ble_eq_true rfl, Nat.le_of_ble_eq_true rfl⟩ (fun H locs I => ?_)
      refine W.widen (k := 0) (n := 0) (by decide) (by decide) ?_
      refine lv_if_le (tgt := 91) C.1.1 C.1.2.1 d_LL_pickFor_84 (by decide) (fun c31 => ?_) (fun c31 => ?_)
      · rw [if_pos c31] at hf
        refine lv_iinc (v := (y5 + 1)) (lv' := [(5, .int (y5 + 1)), (7, .int s0), (0, va_rf (some t0)), (1, .long y1), (3, va_rf y3), (4, va_rf y4), (6, va_rf y6)]) C.1.1 C.1.2.1 d_LL_pickFor_91 hl (k := 5) rfl rfl (by decide) (by first | rfl | simp [hq_cat, hq_catI, hq_catL]) (fun ls hl => ?_)
        refine lv_goto (tgt := 6) C.1.1 C.1.2.1 d_LL_pickFor_94 (by decide) ?_
        refine W.widen (k := 0) (n := 0) (by decide) (by decide) ?_
        exact hk6 t0 y1 y3 y4 (y5 + 1) q27.2 _ hf _ _ I ls (lv_sub hl [2, 3, 4, 5, 0] rfl)
      · rw [if_neg c31] at hf
        refine hq_aload C.1.1 C.1.2.1 d_LL_pickFor_87 (lv_at hl 6 rfl) ?_
        refine hq_astore (r := y6) (i := 4) (lv' := [(4, va_rf y6), (7, .int s0), (0, va_rf (some t0)), (1, .long y1), (3, va_rf y3), (5, .int y5), (6, va_rf y6)]) C.1.1 C.1.2.1 d_LL_pickFor_89 hl (by decide) (by first | rfl | simp [hq_cat, hq_catI, hq_catL]) (fun ls hl => ?_)
        refine lv_iinc (v := (y5 + 1)) (lv' := [(5, .int (y5 + 1)), (4, va_rf y6), (7, .int s0), (0, va_rf (some t0)), (1, .long y1), (3, va_rf y3), (6, va_rf y6)]) C.1.1 C.1.2.1 d_LL_pickFor_91 hl (k := 5) rfl rfl (by decide) (by first | rfl | simp [hq_cat, hq_catI, hq_catL]) (fun ls hl => ?_)
        refine lv_goto (tgt := 6) C.1.1 C.1.2.1 d_LL_pickFor_94 (by decide) ?_
        refine W.widen (k := 0) (n := 0) (by decide) (by decide) ?_
        exact hk6 t0 y1 y3 y6 (y5 + 1) q27.2 _ hf _ _ I ls (lv_sub hl [3, 4, 5, 1, 0] rfl)
set_option maxRecDepth 100000 in
set_option maxHeartbeats 4000000 in
theorem k_LL_pickFor_L58 {p : Program} {l : Launch} {e : Env} {s : State} {m : MethodId} {args : Array Value} {below : List Frame} {meth : Method} {c : Code} {G : hp_G} {B : Nat} (C : hq_C p s m args meth c b_LL_pickFor 8 ((Option.some (Jvm.ClassFile.FieldType.object "LayeredLauncher$Artifact"))) "LayeredLauncher" "pickFor" gt G vwCl aTs) (k6 : Nat → Int64 → Option Nat → Option Nat → Int32 → hp_H → Option (Option Nat × hp_H)) (hk6 : ∀ (t0 : Nat) (y1 : Int64) (y3 : Option Nat) (y4 : Option Nat) (y5 : Int32) (h : hp_H) (out : Option Nat × hp_H), k6 t0 y1 y3 y4 y5 h = some out → ∀ (H : Heap) (locs : List Loc), hp_I G vwCl B s.heap h H locs → ∀ ls : Array Slot, lv_has ls 8 [(0, va_rf (some t0)), (1, .long y1), (3, va_rf y3), (4, va_rf y4), (5, .int y5)] → W p l e ({ frames := 3, cells := 0, slots := 0, locals := 65 }) s m args below meth c H locs 0 0 (MQ below (hq_Q G vwCl B (some (va_rf out.1)) out.2) args s 0 0 (fun q => B ≤ q)) (F0 m 6 ls [])) : ∀ (t0 : Nat) (y1 : Int64) (y3 : Option Nat) (y4 : Option Nat) (y5 : Int32) (y6 : Option Nat) (h : hp_H) (out : Option Nat × hp_H), f_LL_pickFor_L58 k6 t0 y1 y3 y4 y5 y6 h = some out → ∀ (H : Heap) (locs : List Loc), hp_I G vwCl B s.heap h H locs → ∀ ls : Array Slot, lv_has ls 8 [(0, va_rf (some t0)), (1, .long y1), (3, va_rf y3), (4, va_rf y4), (5, .int y5), (6, va_rf y6)] → W p l e ({ frames := 3, cells := 0, slots := 0, locals := 65 }) s m args below meth c H locs 0 0 (MQ below (hq_Q G vwCl B (some (va_rf out.1)) out.2) args s 0 0 (fun q => B ≤ q)) (F0 m 58 ls []) := by
  intro t0 y1 y3 y4 y5 y6 h out hf H locs I ls hl
  unfold f_LL_pickFor_L58 at hf
  refine lv_iconst (v := 0) C.1.1 C.1.2.1 d_LL_pickFor_58 (by decide) ?_
  refine W.widen (k := 0) (n := 0) (by decide) (by decide) ?_
  exact k_LL_pickFor_L59 C _ hk6 t0 y1 y3 y4 y5 y6 (0 : Int32) h _ hf _ _ I ls (lv_sub hl [0, 1, 2, 3, 4, 5] rfl)
set_option maxRecDepth 100000 in
set_option maxHeartbeats 4000000 in
theorem k_LL_pickFor_L6 {p : Program} {l : Launch} {e : Env} {s : State} {m : MethodId} {args : Array Value} {below : List Frame} {meth : Method} {c : Code} {G : hp_G} {B : Nat} (C : hq_C p s m args meth c b_LL_pickFor 8 ((Option.some (Jvm.ClassFile.FieldType.object "LayeredLauncher$Artifact"))) "LayeredLauncher" "pickFor" gt G vwCl aTs) : ∀ (n : Nat) (t0 : Nat) (y1 : Int64) (y3 : Option Nat) (y4 : Option Nat) (y5 : Int32) (h : hp_H) (out : Option Nat × hp_H), f_LL_pickFor_L6 n t0 y1 y3 y4 y5 h = some out → ∀ (H : Heap) (locs : List Loc), hp_I G vwCl B s.heap h H locs → ∀ ls : Array Slot, lv_has ls 8 [(0, va_rf (some t0)), (1, .long y1), (3, va_rf y3), (4, va_rf y4), (5, .int y5)] → W p l e ({ frames := 3, cells := 0, slots := 0, locals := 65 }) s m args below meth c H locs 0 0 (MQ below (hq_Q G vwCl B (some (va_rf out.1)) out.2) args s 0 0 (fun q => B ≤ q)) (F0 m 6 ls []) := by
  intro n
  induction n with
  | zero => intro t0 y1 y3 y4 y5 h out hf; simp [f_LL_pickFor_L6] at hf
  | succ n ih =>
    intro t0 y1 y3 y4 y5 h out hf H locs I ls hl
    simp only [f_LL_pickFor_L6] at hf
    refine lv_iload C.1.1 C.1.2.1 d_LL_pickFor_6 (lv_at hl 4 rfl) ?_
    refine hq_aload_n C.1.1 C.1.2.1 d_LL_pickFor_8 rfl (lv_at hl 0 rfl) ?_
    replace hf := Option.bind_eq_some_iff.mp hf
    obtain ⟨x1, e2, hf⟩ := hf
    refine hq_getI C I F_LL_22 e2 d_LL_pickFor_9 ?_
    refine lv_icmp_ge (tgt := 97) C.1.1 C.1.2.1 d_LL_pickFor_12 (by decide) (fun c3 => ?_) (fun c3 => ?_)
    · rw [if_pos c3] at hf
      refine hq_aload C.1.1 C.1.2.1 d_LL_pickFor_97 (lv_at hl 3 rfl) ?_
      cases hf
      exact hq_aret C I (Or.inl ⟨_, rfl⟩) (by decide) (by decide) d_LL_pickFor_99
    · rw [if_neg c3] at hf
      refine hq_aload_n C.1.1 C.1.2.1 d_LL_pickFor_15 rfl (lv_at hl 0 rfl) ?_
      replace hf := Option.bind_eq_some_iff.mp hf
      obtain ⟨x4, e5, hf⟩ := hf
      refine hq_getR C I F_LL_18 e5 d_LL_pickFor_16 ?_
      refine lv_iload C.1.1 C.1.2.1 d_LL_pickFor_19 (lv_at hl 4 rfl) ?_
      replace hf := Option.bind_eq_some_iff.mp hf
      obtain ⟨x6, e7, hf⟩ := hf
      refine hq_aald C I (t := 4) rfl e7 d_LL_pickFor_21 ?_
      refine hq_astore (r := x6) (i := 6) (lv' := [(6, va_rf x6), (0, va_rf (some t0)), (1, .long y1), (3, va_rf y3), (4, va_rf y4), (5, .int y5)]) C.1.1 C.1.2.1 d_LL_pickFor_22 hl (by decide) (by first | rfl | simp [hq_cat, hq_catI, hq_catL]) (fun ls hl => ?_)
      refine hq_aload C.1.1 C.1.2.1 d_LL_pickFor_24 (lv_at hl 0 rfl) ?_
      replace hf := Option.bind_eq_some_iff.mp hf
      obtain ⟨x8, e9, hf⟩ := hf
      refine hq_getI C I F_LL_120 e9 d_LL_pickFor_26 ?_
      refine lv_if_ne (tgt := 58) C.1.1 C.1.2.1 d_LL_pickFor_29 (by decide) (fun c10 => ?_) (fun c10 => ?_)
      · rw [if_neg c10] at hf
        refine W.widen (k := 0) (n := 0) (by decide) (by decide) ?_
        exact k_LL_pickFor_L58 C _ ih t0 y1 y3 y4 y5 x6 h _ hf _ _ I ls (lv_sub hl [1, 2, 3, 4, 5, 0] rfl)
      · rw [if_pos c10] at hf
        refine hq_aload C.1.1 C.1.2.1 d_LL_pickFor_32 (lv_at hl 0 rfl) ?_
        replace hf := Option.bind_eq_some_iff.mp hf
        obtain ⟨x11, e12, hf⟩ := hf
        refine hq_getL C I F_LL_173 e12 d_LL_pickFor_34 ?_
        refine lv_lload_n C.1.1 C.1.2.1 d_LL_pickFor_37 rfl (lv_at hl 2 rfl) ?_
        refine W.lcmp C.1.1 C.1.2.1 d_LL_pickFor_38 ?_
        refine lv_if_ne (tgt := 58) C.1.1 C.1.2.1 d_LL_pickFor_39 (by decide) (fun c13 => ?_) (fun c13 => ?_)
        · rw [if_neg c13] at hf
          refine W.widen (k := 0) (n := 0) (by decide) (by decide) ?_
          exact k_LL_pickFor_L58 C _ ih t0 y1 y3 y4 y5 x6 h _ hf _ _ I ls (lv_sub hl [1, 2, 3, 4, 5, 0] rfl)
        · rw [if_pos c13] at hf
          refine hq_aload_n C.1.1 C.1.2.1 d_LL_pickFor_42 rfl (lv_at hl 3 rfl) ?_
          refine hq_aload C.1.1 C.1.2.1 d_LL_pickFor_43 (lv_at hl 0 rfl) ?_
          replace hf := Option.bind_eq_some_iff.mp hf
          obtain ⟨x14, e15, hf⟩ := hf
          refine hq_getR C I F_LL_177 e15 d_LL_pickFor_45 ?_
          replace hf := Option.bind_eq_some_iff.mp hf
          obtain ⟨b18, e19, hf⟩ := hf
          obtain ⟨e19r, _, e19c⟩ := hp_o_inv e19
          replace hf := Option.bind_eq_some_iff.mp hf
          obtain ⟨q16, e17, hf⟩ := hf
          refine hq_callW gt_good C I hl.1 (k_RG_holds l G B _ b18 x14 q16 e17) M_LL_181 e19c e19r ⟨rfl, rfl⟩ ⟨Nat.le_of_ble_eq_true rfl, Nat.le_of_ble_eq_true rfl⟩ rfl (Nat.le_of_ble_eq_true rfl) d_LL_pickFor_48 ⟨Nat.le_of_ble_eq_true rfl, Nat.le_of_ble_eq_true rfl⟩ (fun H locs I => ?_)
          refine W.widen (k := 0) (n := 0) (by decide) (by decide) ?_
          refine lv_if_eq (tgt := 58) C.1.1 C.1.2.1 d_LL_pickFor_51 (by decide) (fun c20 => ?_) (fun c20 => ?_)
          · rw [if_pos c20] at hf
            refine W.widen (k := 0) (n := 0) (by decide) (by decide) ?_
            exact k_LL_pickFor_L58 C _ ih t0 y1 y3 y4 y5 x6 q16.2 _ hf _ _ I ls (lv_sub hl [1, 2, 3, 4, 5, 0] rfl)
          · rw [if_neg c20] at hf
            refine lv_iconst (v := 1) C.1.1 C.1.2.1 d_LL_pickFor_54 (by decide) ?_
            refine lv_goto (tgt := 59) C.1.1 C.1.2.1 d_LL_pickFor_55 (by decide) ?_
            refine W.widen (k := 0) (n := 0) (by decide) (by decide) ?_
            exact k_LL_pickFor_L59 C _ ih t0 y1 y3 y4 y5 x6 (1 : Int32) q16.2 _ hf _ _ I ls (lv_sub hl [1, 2, 3, 4, 5, 0] rfl)
set_option maxRecDepth 100000 in
set_option maxHeartbeats 4000000 in
theorem k_LL_pickFor (l : Launch) (G : hp_G) (B : Nat) (h : hp_H) (t0 : Nat) (p1 : Int64) (p3 : Option Nat) (out : Option Nat × hp_H) (hf : f_LL_pickFor h t0 p1 p3 = some out) : Met l y_LL_pickFor (.code y_LL_pickFor b_LL_pickFor 8 ((Option.some (Jvm.ClassFile.FieldType.object "LayeredLauncher$Artifact"))) :: gt) ({ frames := 3, cells := 0, slots := 0, locals := 65 }) (hq_Pc G vwCl aTs B h [.ref t0, .long p1, va_rf p3]) (hq_Q G vwCl B (some (va_rf out.1)) out.2) 0 0 (fun q => B ≤ q) := by
  refine hq_enter (nL := 8) (by decide +kernel) (by simp [lg_sl, hq_cat, hq_catI, hq_catL, hq_catR]) ?_
  intro p e s m args below meth c C I ls hl
  have hl : lv_has ls 8 [(0, va_rf (some t0)), (1, .long p1), (3, va_rf p3)] := by simp [lv_args, hq_cat, hq_catI, hq_catL, hq_catR] at hl; exact hl
  unfold f_LL_pickFor at hf
  refine lv_null C.1.1 C.1.2.1 d_LL_pickFor_0 ?_
  refine hq_astore (r := none) (i := 4) (lv' := [(4, va_rf none), (0, va_rf (some t0)), (1, .long p1), (3, va_rf p3)]) C.1.1 C.1.2.1 d_LL_pickFor_1 hl (by decide) (by first | rfl | simp [hq_cat, hq_catI, hq_catL]) (fun ls hl => ?_)
  refine lv_iconst (v := 0) C.1.1 C.1.2.1 d_LL_pickFor_3 (by decide) ?_
  refine lv_istore (i := 5) (lv' := [(5, .int (0 : Int32)), (4, va_rf none), (0, va_rf (some t0)), (1, .long p1), (3, va_rf p3)]) C.1.1 C.1.2.1 d_LL_pickFor_4 hl (by decide) (by first | rfl | simp [hq_cat, hq_catI, hq_catL]) (fun ls hl => ?_)
  refine W.widen (k := 0) (n := 0) (by decide) (by decide) ?_
  exact k_LL_pickFor_L6 C FU t0 p1 p3 none (0 : Int32) h _ hf _ _ I ls (lv_sub hl [2, 3, 4, 1, 0] rfl)
set_option maxRecDepth 100000 in
set_option maxHeartbeats 4000000 in
theorem k_AR_init (l : Launch) (G : hp_G) (B : Nat) (h : hp_H) (t0 : Nat) (p1 : Int32) (p2 : Int64) (p4 : Option Nat) (p5 : Option Nat) (out : hp_H) (hf : f_AR_init h t0 p1 p2 p4 p5 = some out) : Met l y_AR_init (.code y_AR_init b_AR_init 6 ((Option.none : Option Jvm.ClassFile.FieldType)) :: gt) ({ frames := 1, cells := 1, slots := 6, locals := 20 }) (hq_Pc G vwCl aTs B h [.ref t0, .int p1, .long p2, va_rf p4, va_rf p5]) (hq_Q G vwCl B none out) 1 6 (fun q => B ≤ q) := by
  refine hq_enter (nL := 6) (by decide +kernel) (by simp [lg_sl, hq_cat, hq_catI, hq_catL, hq_catR]) ?_
  intro p e s m args below meth c C I ls hl
  have hl : lv_has ls 6 [(0, va_rf (some t0)), (1, .int p1), (2, .long p2), (4, va_rf p4), (5, va_rf p5)] := by simp [lv_args, hq_cat, hq_catI, hq_catL, hq_catR] at hl; exact hl
  unfold f_AR_init at hf
  refine hq_aload_n C.1.1 C.1.2.1 d_AR_init_0 rfl (lv_at hl 0 rfl) ?_
  refine W.objInit C.1.1 C.1.2.1 C.1.2.2.2.1 (C.1.2.2.2.2 _ g268) (C.1.2.2.2.2 _ g53) (C.1.2.2.2.2 _ g54) rfl (by rw [C.1.2.2.1]; exact hl.1) rfl d_AR_init_1 (Nat.le_of_ble_eq_true rfl) (Nat.le_of_ble_eq_true rfl) ?_
  refine W.eq (g2 := F0 m 4 ls []) rfl ?_
  refine hq_aload_n C.1.1 C.1.2.1 d_AR_init_4 rfl (lv_at hl 0 rfl) ?_
  refine lv_bipush (v := 6) C.1.1 C.1.2.1 d_AR_init_5 (by decide) ?_
  refine hq_newq C I (t := 5) rfl g269 (by decide) (mx := 6) (by decide) (by decide) (Nat.le_refl _) (by decide) (Nat.le_of_ble_eq_true rfl) (Nat.le_of_ble_eq_true rfl) d_AR_init_7 (fun H I => ?_)
  refine W.widen (k := 1) (n := 6) (by decide) (by decide) ?_
  replace hf := Option.bind_eq_some_iff.mp hf
  obtain ⟨h1, e2, hf⟩ := hf
  rw [Option.some.inj e2] at I
  replace hf := Option.bind_eq_some_iff.mp hf
  obtain ⟨h3, e4, hf⟩ := hf
  refine hq_putF C I F_AR_11 (fun r hr => by cases hr; rfl) e4 (hq_rfa _ _).1 (hq_rfa _ _).2 d_AR_init_10 (fun H locs I => ?_)
  refine hq_aload_n C.1.1 C.1.2.1 d_AR_init_13 rfl (lv_at hl 0 rfl) ?_
  refine lv_iconst (v := 0) C.1.1 C.1.2.1 d_AR_init_14 (by decide) ?_
  replace hf := Option.bind_eq_some_iff.mp hf
  obtain ⟨h5, e6, hf⟩ := hf
  refine hq_put C I F_AR_17 e6 rfl rfl d_AR_init_15 (fun H locs I => ?_)
  refine hq_aload_n C.1.1 C.1.2.1 d_AR_init_18 rfl (lv_at hl 0 rfl) ?_
  refine lv_iconst (v := 0) C.1.1 C.1.2.1 d_AR_init_19 (by decide) ?_
  replace hf := Option.bind_eq_some_iff.mp hf
  obtain ⟨h7, e8, hf⟩ := hf
  refine hq_put C I F_AR_21 e8 rfl rfl d_AR_init_20 (fun H locs I => ?_)
  refine hq_aload_n C.1.1 C.1.2.1 d_AR_init_23 rfl (lv_at hl 0 rfl) ?_
  refine lv_iconst (v := 0) C.1.1 C.1.2.1 d_AR_init_24 (by decide) ?_
  replace hf := Option.bind_eq_some_iff.mp hf
  obtain ⟨h9, e10, hf⟩ := hf
  refine hq_put C I F_AR_24 e10 (hp_z_nar (x := 0) (Or.inl rfl)).1 (hp_z_nar (x := 0) (Or.inl rfl)).2 d_AR_init_25 (fun H locs I => ?_)
  refine hq_aload_n C.1.1 C.1.2.1 d_AR_init_28 rfl (lv_at hl 0 rfl) ?_
  refine lv_iload_n C.1.1 C.1.2.1 d_AR_init_29 rfl (lv_at hl 1 rfl) ?_
  replace hf := Option.bind_eq_some_iff.mp hf
  obtain ⟨h11, e12, hf⟩ := hf
  refine hq_putF C I F_AR_28 (fun r hr => by cases hr; rfl) e12 rfl rfl d_AR_init_30 (fun H locs I => ?_)
  refine hq_aload_n C.1.1 C.1.2.1 d_AR_init_33 rfl (lv_at hl 0 rfl) ?_
  refine lv_lload_n C.1.1 C.1.2.1 d_AR_init_34 rfl (lv_at hl 2 rfl) ?_
  replace hf := Option.bind_eq_some_iff.mp hf
  obtain ⟨h13, e14, hf⟩ := hf
  refine hq_putF C I F_AR_31 (fun r hr => by cases hr; rfl) e14 rfl rfl d_AR_init_35 (fun H locs I => ?_)
  refine hq_aload_n C.1.1 C.1.2.1 d_AR_init_38 rfl (lv_at hl 0 rfl) ?_
  refine hq_aload C.1.1 C.1.2.1 d_AR_init_39 (lv_at hl 3 rfl) ?_
  replace hf := Option.bind_eq_some_iff.mp hf
  obtain ⟨h15, e16, hf⟩ := hf
  refine hq_putF C I F_AR_35 (fun r hr => by cases hr; rfl) e16 (hq_rff _ _).1 (hq_rff _ _).2 d_AR_init_41 (fun H locs I => ?_)
  refine hq_aload_n C.1.1 C.1.2.1 d_AR_init_44 rfl (lv_at hl 0 rfl) ?_
  refine hq_aload C.1.1 C.1.2.1 d_AR_init_45 (lv_at hl 4 rfl) ?_
  replace hf := Option.bind_eq_some_iff.mp hf
  obtain ⟨h17, e18, hf⟩ := hf
  refine hq_putF C I F_AR_39 (fun r hr => by cases hr; rfl) e18 (hq_rfa _ _).1 (hq_rfa _ _).2 d_AR_init_47 (fun H locs I => ?_)
  cases hf
  exact hq_vret C I (by decide) (by decide) d_AR_init_50
set_option maxRecDepth 100000 in
set_option maxHeartbeats 4000000 in
theorem k_LL_publish (l : Launch) (G : hp_G) (B : Nat) (h : hp_H) (t0 : Nat) (out : Int32 × hp_H) (hf : f_LL_publish h t0 = some out) : Met l y_LL_publish (.code y_LL_publish b_LL_publish 7 ((Option.some Jvm.ClassFile.FieldType.int)) :: gt) ({ frames := 4, cells := 6, slots := 72, locals := 92 }) (hq_Pc G vwCl aTs B h [.ref t0]) (hq_Q G vwCl B (some (.int out.1)) out.2) 6 72 (fun q => B ≤ q) := by
  refine hq_enter (nL := 7) (by decide +kernel) (Nat.le_of_ble_eq_true rfl) ?_
  intro p e s m args below meth c C I ls hl
  have hl : lv_has ls 7 [(0, va_rf (some t0))] := hl
  unfold f_LL_publish at hf
  refine hq_aload_n C.1.1 C.1.2.1 d_LL_publish_0 rfl (lv_at hl 0 rfl) ?_
  replace hf := Option.bind_eq_some_iff.mp hf
  obtain ⟨x1, e2, hf⟩ := hf
  refine hq_getR C I F_LL_10 e2 d_LL_publish_1 ?_
  replace hf := Option.bind_eq_some_iff.mp hf
  obtain ⟨b5, e6, hf⟩ := hf
  obtain ⟨e6r, _, e6c⟩ := hp_o_inv e6
  replace hf := Option.bind_eq_some_iff.mp hf
  obtain ⟨q3, e4, hf⟩ := hf
  refine hq_callW gt_good C I hl.1 (k_LN_takeNameAndColon l G B _ b5 q3 e4) M_LL_49 e6c e6r ⟨rfl, rfl⟩ ⟨Nat.le_of_ble_eq_true rfl, Nat.le_of_ble_eq_true rfl⟩ rfl (Nat.le_of_ble_eq_true rfl) d_LL_publish_4 ⟨Nat.le_of_ble_eq_true rfl, Nat.le_of_ble_eq_true rfl⟩ (fun H locs I => ?_)
  refine W.widen (k := 0) (n := 0) (by decide) (by decide) ?_
  refine lv_lstore_n (i := 1) (lv' := [(1, .long q3.1), (0, va_rf (some t0))]) C.1.1 C.1.2.1 d_LL_publish_7 rfl hl (by decide) (by first | rfl | simp [hq_cat, hq_catI, hq_catL]) (fun ls hl => ?_)
  refine hq_aload_n C.1.1 C.1.2.1 d_LL_publish_8 rfl (lv_at hl 1 rfl) ?_
  replace hf := Option.bind_eq_some_iff.mp hf
  obtain ⟨x7, e8, hf⟩ := hf
  refine hq_getR C I F_LL_10 e8 d_LL_publish_9 ?_
  replace hf := Option.bind_eq_some_iff.mp hf
  obtain ⟨b11, e12, hf⟩ := hf
  obtain ⟨e12r, _, e12c⟩ := hp_o_inv e12
  replace hf := Option.bind_eq_some_iff.mp hf
  obtain ⟨q9, e10, hf⟩ := hf
  refine hq_callW gt_good C I hl.1 (k_LN_takeVersion l G B _ b11 q9 e10) M_LL_53 e12c e12r ⟨rfl, rfl⟩ ⟨Nat.le_of_ble_eq_true rfl, Nat.le_of_ble_eq_true rfl⟩ rfl (Nat.le_of_ble_eq_true rfl) d_LL_publish_12 ⟨Nat.le_of_ble_eq_true rfl, Nat.le_of_ble_eq_true rfl⟩ (fun H locs I => ?_)
  refine W.widen (k := 2) (n := 13) (by decide) (by decide) ?_
  refine hq_astore_n (r := q9.1) (i := 3) (lv' := [(3, va_rf q9.1), (1, .long q3.1), (0, va_rf (some t0))]) C.1.1 C.1.2.1 d_LL_publish_15 rfl hl (by decide) (by first | rfl | simp [hq_cat, hq_catI, hq_catL]) (fun ls hl => ?_)
  refine hq_aload_n C.1.1 C.1.2.1 d_LL_publish_16 rfl (lv_at hl 2 rfl) ?_
  replace hf := Option.bind_eq_some_iff.mp hf
  obtain ⟨x13, e14, hf⟩ := hf
  refine hq_getR C I F_LL_10 e14 d_LL_publish_17 ?_
  replace hf := Option.bind_eq_some_iff.mp hf
  obtain ⟨b17, e18, hf⟩ := hf
  obtain ⟨e18r, _, e18c⟩ := hp_o_inv e18
  replace hf := Option.bind_eq_some_iff.mp hf
  obtain ⟨q15, e16, hf⟩ := hf
  refine hq_callW gt_good C I hl.1 (k_LN_copy l G B _ b17 q15 e16) M_LL_57 e18c e18r ⟨rfl, rfl⟩ ⟨Nat.le_of_ble_eq_true rfl, Nat.le_of_ble_eq_true rfl⟩ rfl (Nat.le_of_ble_eq_true rfl) d_LL_publish_20 ⟨Nat.le_of_ble_eq_true rfl, Nat.le_of_ble_eq_true rfl⟩ (fun H locs I => ?_)
  refine W.widen (k := 3) (n := 53) (by decide) (by decide) ?_
  refine hq_astore (r := q15.1) (i := 4) (lv' := [(4, va_rf q15.1), (3, va_rf q9.1), (1, .long q3.1), (0, va_rf (some t0))]) C.1.1 C.1.2.1 d_LL_publish_23 hl (by decide) (by first | rfl | simp [hq_cat, hq_catI, hq_catL]) (fun ls hl => ?_)
  refine hq_aload_n C.1.1 C.1.2.1 d_LL_publish_25 rfl (lv_at hl 3 rfl) ?_
  replace hf := Option.bind_eq_some_iff.mp hf
  obtain ⟨x19, e20, hf⟩ := hf
  refine hq_getR C I F_LL_10 e20 d_LL_publish_26 ?_
  replace hf := Option.bind_eq_some_iff.mp hf
  obtain ⟨b23, e24, hf⟩ := hf
  obtain ⟨e24r, _, e24c⟩ := hp_o_inv e24
  replace hf := Option.bind_eq_some_iff.mp hf
  obtain ⟨q21, e22, hf⟩ := hf
  refine hq_callW gt_good C I hl.1 (k_LN_finishReading l G B _ b23 q21 e22) M_LL_61 e24c e24r ⟨rfl, rfl⟩ ⟨Nat.le_of_ble_eq_true rfl, Nat.le_of_ble_eq_true rfl⟩ rfl (Nat.le_of_ble_eq_true rfl) d_LL_publish_29 ⟨Nat.le_of_ble_eq_true rfl, Nat.le_of_ble_eq_true rfl⟩ (fun H locs I => ?_)
  refine W.widen (k := 3) (n := 53) (by decide) (by decide) ?_
  refine lv_istore (i := 5) (lv' := [(5, .int q21.1), (4, va_rf q15.1), (3, va_rf q9.1), (1, .long q3.1), (0, va_rf (some t0))]) C.1.1 C.1.2.1 d_LL_publish_32 hl (by decide) (by first | rfl | simp [hq_cat, hq_catI, hq_catL]) (fun ls hl => ?_)
  refine lv_lload_n C.1.1 C.1.2.1 d_LL_publish_34 rfl (lv_at hl 3 rfl) ?_
  refine lv_lconst (v := 0) C.1.1 C.1.2.1 d_LL_publish_35 (by decide) ?_
  refine W.lcmp C.1.1 C.1.2.1 d_LL_publish_36 ?_
  refine lv_if_eq (tgt := 49) C.1.1 C.1.2.1 d_LL_publish_37 (by decide) (fun c25 => ?_) (fun c25 => ?_)
  · rw [if_pos c25] at hf
    refine lv_bipush (v := -3) C.1.1 C.1.2.1 d_LL_publish_49 (by decide) ?_
    cases hf
    exact hq_iret C I (by decide) (by decide) d_LL_publish_51
  · rw [if_neg c25] at hf
    refine hq_aload_n C.1.1 C.1.2.1 d_LL_publish_40 rfl (lv_at hl 2 rfl) ?_
    refine hq_ifnull (tgt := 49) C.1.1 C.1.2.1 d_LL_publish_41 (by decide) (fun c26 => ?_) (fun c26 => ?_)
    · rw [if_pos c26] at hf
      refine lv_bipush (v := -3) C.1.1 C.1.2.1 d_LL_publish_49 (by decide) ?_
      cases hf
      exact hq_iret C I (by decide) (by decide) d_LL_publish_51
    · rw [if_neg c26] at hf
      refine lv_iload C.1.1 C.1.2.1 d_LL_publish_44 (lv_at hl 0 rfl) ?_
      refine lv_if_ne (tgt := 52) C.1.1 C.1.2.1 d_LL_publish_46 (by decide) (fun c27 => ?_) (fun c27 => ?_)
      · rw [if_neg c27] at hf
        refine hq_aload_n C.1.1 C.1.2.1 d_LL_publish_52 rfl (lv_at hl 4 rfl) ?_
        refine lv_lload_n C.1.1 C.1.2.1 d_LL_publish_53 rfl (lv_at hl 3 rfl) ?_
        refine hq_aload_n C.1.1 C.1.2.1 d_LL_publish_54 rfl (lv_at hl 2 rfl) ?_
        refine lv_iconst (v := 1) C.1.1 C.1.2.1 d_LL_publish_55 (by decide) ?_
        replace hf := Option.bind_eq_some_iff.mp hf
        obtain ⟨q28, e29, hf⟩ := hf
        refine hq_callS gt_good C I hl.1 (k_RG_exactly l G B _ q9.1 (1 : Int32) q28 e29) M_LL_65 ⟨rfl, rfl⟩ ⟨Nat.le_of_ble_eq_true rfl, Nat.le_of_ble_eq_true rfl⟩ rfl (by simp [hq_cat, hq_catI, hq_catL]) d_LL_publish_56 ⟨Nat.le_of_ble_eq_true rfl, Nat.le_of_ble_eq_true rfl⟩ (fun H locs I => ?_)
        refine W.widen (k := 4) (n := 58) (by decide) (by decide) ?_
        replace hf := Option.bind_eq_some_iff.mp hf
        obtain ⟨b32, e33, hf⟩ := hf
        obtain ⟨e33r, _, e33c⟩ := hp_o_inv e33
        cases e33r
        replace hf := Option.bind_eq_some_iff.mp hf
        obtain ⟨q30, e31, hf⟩ := hf
        refine hq_callW gt_good C I hl.1 (k_LL_pickFor l G B _ t0 q3.1 q28.1 q30 e31) M_LL_71 e33c rfl ⟨rfl, rfl⟩ ⟨Nat.le_of_ble_eq_true rfl, Nat.le_of_ble_eq_true rfl⟩ rfl (Nat.le_of_ble_eq_true rfl) d_LL_publish_59 ⟨Nat.le_of_ble_eq_true rfl, Nat.le_of_ble_eq_true rfl⟩ (fun H locs I => ?_)
        refine W.widen (k := 4) (n := 58) (by decide) (by decide) ?_
        refine hq_ifnull (tgt := 67) C.1.1 C.1.2.1 d_LL_publish_62 (by decide) (fun c34 => ?_) (fun c34 => ?_)
        · rw [if_pos c34] at hf
          refine hq_aload_n C.1.1 C.1.2.1 d_LL_publish_67 rfl (lv_at hl 4 rfl) ?_
          replace hf := Option.bind_eq_some_iff.mp hf
          obtain ⟨x35, e36, hf⟩ := hf
          refine hq_getI C I F_LL_22 e36 d_LL_publish_68 ?_
          refine lv_bipush (v := 20) C.1.1 C.1.2.1 d_LL_publish_71 (by decide) ?_
          refine lv_icmp_lt (tgt := 79) C.1.1 C.1.2.1 d_LL_publish_73 (by decide) (fun c37 => ?_) (fun c37 => ?_)
          · rw [if_pos c37] at hf
            refine hq_aload_n C.1.1 C.1.2.1 d_LL_publish_79 rfl (lv_at hl 4 rfl) ?_
            replace hf := Option.bind_eq_some_iff.mp hf
            obtain ⟨x38, e39, hf⟩ := hf
            refine hq_getI C I F_LL_22 e39 d_LL_publish_80 ?_
            refine lv_istore (i := 6) (lv' := [(6, .int x38), (5, .int q21.1), (4, va_rf q15.1), (3, va_rf q9.1), (1, .long q3.1), (0, va_rf (some t0))]) C.1.1 C.1.2.1 d_LL_publish_83 hl (by decide) (by first | rfl | simp [hq_cat, hq_catI, hq_catL]) (fun ls hl => ?_)
            refine hq_aload_n C.1.1 C.1.2.1 d_LL_publish_85 rfl (lv_at hl 5 rfl) ?_
            replace hf := Option.bind_eq_some_iff.mp hf
            obtain ⟨x40, e41, hf⟩ := hf
            refine hq_getR C I F_LL_18 e41 d_LL_publish_86 ?_
            refine lv_iload C.1.1 C.1.2.1 d_LL_publish_89 (lv_at hl 0 rfl) ?_
            refine hq_new C I K_AR g73 g264 g44 (fs := [.int 0, .long 0, .null, .null, .null, .int 0, .int 0, .int 0]) (fun j hj => born_AR j hj) (Nat.le_of_ble_eq_true rfl) (Nat.le_of_ble_eq_true rfl) d_LL_publish_91 (fun H I => ?_)
            refine W.widen (k := 5) (n := 66) (by decide) (by decide) ?_
            replace hf := Option.bind_eq_some_iff.mp hf
            obtain ⟨h44, e43, hf⟩ := hf
            rw [Option.some.inj e43] at I
            refine lv_dup C.1.1 C.1.2.1 d_LL_publish_94 (hq_cat _) ?_
            refine lv_iload C.1.1 C.1.2.1 d_LL_publish_95 (lv_at hl 0 rfl) ?_
            refine lv_lload_n C.1.1 C.1.2.1 d_LL_publish_97 rfl (lv_at hl 4 rfl) ?_
            refine hq_aload_n C.1.1 C.1.2.1 d_LL_publish_98 rfl (lv_at hl 3 rfl) ?_
            refine hq_aload C.1.1 C.1.2.1 d_LL_publish_99 (lv_at hl 2 rfl) ?_
            replace hf := Option.bind_eq_some_iff.mp hf
            obtain ⟨q45, e46, hf⟩ := hf
            refine hq_callI gt_good C I hl.1 (k_AR_init l G B _ q30.2.2 x38 q3.1 q9.1 q15.1 q45 e46) M_LL_75 ⟨rfl, rfl⟩ ⟨Nat.le_of_ble_eq_true rfl, Nat.le_of_ble_eq_true rfl⟩ rfl (by simp [hq_cat, hq_catI, hq_catL]) d_LL_publish_101 ⟨Nat.le_of_ble_eq_true rfl, Nat.le_of_ble_eq_true rfl⟩ (fun H locs I => ?_)
            refine W.widen (k := 6) (n := 72) (by decide) (by decide) ?_
            replace hf := Option.bind_eq_some_iff.mp hf
            obtain ⟨h47, e48, hf⟩ := hf
            refine hq_aast C I (t := 4) (ci := 3) rfl rfl e48 d_LL_publish_104 (fun H locs I => ?_)
            refine hq_aload_n C.1.1 C.1.2.1 d_LL_publish_105 rfl (lv_at hl 5 rfl) ?_
            refine lv_dup C.1.1 C.1.2.1 d_LL_publish_106 (hq_cat _) ?_
            replace hf := Option.bind_eq_some_iff.mp hf
            obtain ⟨x49, e50, hf⟩ := hf
            refine hq_getI C I F_LL_22 e50 d_LL_publish_107 ?_
            refine lv_iconst (v := 1) C.1.1 C.1.2.1 d_LL_publish_110 (by decide) ?_
            refine lv_iadd C.1.1 C.1.2.1 d_LL_publish_111 ?_
            replace hf := Option.bind_eq_some_iff.mp hf
            obtain ⟨h51, e52, hf⟩ := hf
            refine hq_put C I F_LL_22 e52 rfl rfl d_LL_publish_112 (fun H locs I => ?_)
            refine lv_iload C.1.1 C.1.2.1 d_LL_publish_115 (lv_at hl 0 rfl) ?_
            cases hf
            exact hq_iret C I (by decide) (by decide) d_LL_publish_117
          · rw [if_neg c37] at hf
            refine lv_bipush (v := -2) C.1.1 C.1.2.1 d_LL_publish_76 (by decide) ?_
            cases hf
            exact hq_iret C I (by decide) (by decide) d_LL_publish_78
        · rw [if_neg c34] at hf
          refine lv_iconst (v := -1) C.1.1 C.1.2.1 d_LL_publish_65 (by decide) ?_
          cases hf
          exact hq_iret C I (by decide) (by decide) d_LL_publish_66
      · rw [if_pos c27] at hf
        refine lv_bipush (v := -3) C.1.1 C.1.2.1 d_LL_publish_49 (by decide) ?_
        cases hf
        exact hq_iret C I (by decide) (by decide) d_LL_publish_51
set_option maxRecDepth 100000 in
set_option maxHeartbeats 4000000 in
theorem k_LN_takeRestOfRange_L31 {p : Program} {l : Launch} {e : Env} {s : State} {m : MethodId} {args : Array Value} {below : List Frame} {meth : Method} {c : Code} {G : hp_G} {B : Nat} (C : hq_C p s m args meth c b_LN_takeRestOfRange 5 ((Option.some (Jvm.ClassFile.FieldType.object "LayeredLauncher$Range"))) "LayeredLauncher$Line" "takeRestOfRange" gt G vwCl aTs) : ∀ (t0 : Nat) (y1 : Option Nat) (y2 : Int32) (y3 : Option Nat) (h : hp_H) (out : Option Nat × hp_H), f_LN_takeRestOfRange_L31 t0 y1 y2 y3 h = some out → ∀ (H : Heap) (locs : List Loc), hp_I G vwCl B s.heap h H locs → ∀ ls : Array Slot, lv_has ls 5 [(0, va_rf (some t0)), (1, va_rf y1), (2, .int y2), (3, va_rf y3)] → W p l e ({ frames := 3, cells := 3, slots := 18, locals := 70 }) s m args below meth c H locs 2 13 (MQ below (hq_Q G vwCl B (some (va_rf out.1)) out.2) args s 3 18 (fun q => B ≤ q)) (F0 m 31 ls []) := by
  intro t0 y1 y2 y3 h out hf H locs I ls hl
  unfold f_LN_takeRestOfRange_L31 at hf
  refine hq_aload_n C.1.1 C.1.2.1 d_LN_takeRestOfRange_31 rfl (lv_at hl 0 rfl) ?_
  refine lv_bipush (v := 41) C.1.1 C.1.2.1 d_LN_takeRestOfRange_32 (by decide) ?_
  replace hf := Option.bind_eq_some_iff.mp hf
  obtain ⟨b18, e19, hf⟩ := hf
  obtain ⟨e19r, _, e19c⟩ := hp_o_inv e19
  cases e19r
  replace hf := Option.bind_eq_some_iff.mp hf
  obtain ⟨q16, e17, hf⟩ := hf
  refine hq_callW gt_good C I hl.1 (k_LN_take l G B _ t0 (41 : Int32) q16 e17) M_LN_54 e19c rfl ⟨rfl, rfl⟩ ⟨Nat.le_of_ble_eq_true rfl, Nat.le_of_ble_eq_true rfl⟩ rfl (Nat.le_of_ble_eq_true rfl) d_LN_takeRestOfRange_34 ⟨Nat.le_of_ble_eq_true rfl, Nat.le_of_ble_eq_true rfl⟩ (fun H locs I => ?_)
  refine W.widen (k := 2) (n := 13) (by decide) (by decide) ?_
  refine lv_istore (i := 4) (lv' := [(4, .int q16.1), (0, va_rf (some t0)), (1, va_rf y1), (2, .int y2), (3, va_rf y3)]) C.1.1 C.1.2.1 d_LN_takeRestOfRange_37 hl (by decide) (by first | rfl | simp [hq_cat, hq_catI, hq_catL]) (fun ls hl => ?_)
  refine lv_iload C.1.1 C.1.2.1 d_LN_takeRestOfRange_39 (lv_at hl 0 rfl) ?_
  refine lv_if_ne (tgt := 55) C.1.1 C.1.2.1 d_LN_takeRestOfRange_41 (by decide) (fun c20 => ?_) (fun c20 => ?_)
  · rw [if_neg c20] at hf
    refine hq_new C I K_RG g318 g221 g43 (fs := [.int 0, .null, .int 0, .null, .int 0]) (fun j hj => born_RG j hj) (Nat.le_of_ble_eq_true rfl) (Nat.le_of_ble_eq_true rfl) d_LN_takeRestOfRange_55 (fun H I => ?_)
    refine W.widen (k := 3) (n := 18) (by decide) (by decide) ?_
    replace hf := Option.bind_eq_some_iff.mp hf
    obtain ⟨h23, e22, hf⟩ := hf
    rw [Option.some.inj e22] at I
    refine lv_dup C.1.1 C.1.2.1 d_LN_takeRestOfRange_58 (hq_cat _) ?_
    refine lv_iconst (v := 0) C.1.1 C.1.2.1 d_LN_takeRestOfRange_59 (by decide) ?_
    refine hq_aload_n C.1.1 C.1.2.1 d_LN_takeRestOfRange_60 rfl (lv_at hl 2 rfl) ?_
    refine lv_iload_n C.1.1 C.1.2.1 d_LN_takeRestOfRange_61 rfl (lv_at hl 3 rfl) ?_
    refine hq_aload_n C.1.1 C.1.2.1 d_LN_takeRestOfRange_62 rfl (lv_at hl 4 rfl) ?_
    refine lv_iload C.1.1 C.1.2.1 d_LN_takeRestOfRange_63 (lv_at hl 0 rfl) ?_
    replace hf := Option.bind_eq_some_iff.mp hf
    obtain ⟨q24, e25, hf⟩ := hf
    refine hq_callI gt_good C I hl.1 (k_RG_init l G B _ q16.2.2 (0 : Int32) y1 y2 y3 q16.1 q24 e25) M_LN_82 ⟨rfl, rfl⟩ ⟨Nat.le_of_ble_eq_true rfl, Nat.le_of_ble_eq_true rfl⟩ rfl (by simp [hq_cat, hq_catI, hq_catL]) d_LN_takeRestOfRange_65 ⟨Nat.le_of_ble_eq_true rfl, Nat.le_of_ble_eq_true rfl⟩ (fun H locs I => ?_)
    refine W.widen (k := 3) (n := 18) (by decide) (by decide) ?_
    cases hf
    exact hq_aret C I (Or.inl ⟨_, rfl⟩) (by decide) (by decide) d_LN_takeRestOfRange_68
  · rw [if_pos c20] at hf
    refine hq_aload_n C.1.1 C.1.2.1 d_LN_takeRestOfRange_44 rfl (lv_at hl 1 rfl) ?_
    refine lv_bipush (v := 93) C.1.1 C.1.2.1 d_LN_takeRestOfRange_45 (by decide) ?_
    replace hf := Option.bind_eq_some_iff.mp hf
    obtain ⟨b28, e29, hf⟩ := hf
    obtain ⟨e29r, _, e29c⟩ := hp_o_inv e29
    cases e29r
    replace hf := Option.bind_eq_some_iff.mp hf
    obtain ⟨q26, e27, hf⟩ := hf
    refine hq_callW gt_good C I hl.1 (k_LN_take l G B _ t0 (93 : Int32) q26 e27) M_LN_54 e29c rfl ⟨rfl, rfl⟩ ⟨Nat.le_of_ble_eq_true rfl, Nat.le_of_ble_eq_true rfl⟩ rfl (Nat.le_of_ble_eq_true rfl) d_LN_takeRestOfRange_47 ⟨Nat.le_of_ble_eq_true rfl, Nat.le_of_ble_eq_true rfl⟩ (fun H locs I => ?_)
    refine W.widen (k := 2) (n := 13) (by decide) (by decide) ?_
    refine lv_if_ne (tgt := 55) C.1.1 C.1.2.1 d_LN_takeRestOfRange_50 (by decide) (fun c30 => ?_) (fun c30 => ?_)
    · rw [if_neg c30] at hf
      refine hq_new C I K_RG g318 g221 g43 (fs := [.int 0, .null, .int 0, .null, .int 0]) (fun j hj => born_RG j hj) (Nat.le_of_ble_eq_true rfl) (Nat.le_of_ble_eq_true rfl) d_LN_takeRestOfRange_55 (fun H I => ?_)
      refine W.widen (k := 3) (n := 18) (by decide) (by decide) ?_
      replace hf := Option.bind_eq_some_iff.mp hf
      obtain ⟨h33, e32, hf⟩ := hf
      rw [Option.some.inj e32] at I
      refine lv_dup C.1.1 C.1.2.1 d_LN_takeRestOfRange_58 (hq_cat _) ?_
      refine lv_iconst (v := 0) C.1.1 C.1.2.1 d_LN_takeRestOfRange_59 (by decide) ?_
      refine hq_aload_n C.1.1 C.1.2.1 d_LN_takeRestOfRange_60 rfl (lv_at hl 2 rfl) ?_
      refine lv_iload_n C.1.1 C.1.2.1 d_LN_takeRestOfRange_61 rfl (lv_at hl 3 rfl) ?_
      refine hq_aload_n C.1.1 C.1.2.1 d_LN_takeRestOfRange_62 rfl (lv_at hl 4 rfl) ?_
      refine lv_iload C.1.1 C.1.2.1 d_LN_takeRestOfRange_63 (lv_at hl 0 rfl) ?_
      replace hf := Option.bind_eq_some_iff.mp hf
      obtain ⟨q34, e35, hf⟩ := hf
      refine hq_callI gt_good C I hl.1 (k_RG_init l G B _ q26.2.2 (0 : Int32) y1 y2 y3 q16.1 q34 e35) M_LN_82 ⟨rfl, rfl⟩ ⟨Nat.le_of_ble_eq_true rfl, Nat.le_of_ble_eq_true rfl⟩ rfl (by simp [hq_cat, hq_catI, hq_catL]) d_LN_takeRestOfRange_65 ⟨Nat.le_of_ble_eq_true rfl, Nat.le_of_ble_eq_true rfl⟩ (fun H locs I => ?_)
      refine W.widen (k := 3) (n := 18) (by decide) (by decide) ?_
      cases hf
      exact hq_aret C I (Or.inl ⟨_, rfl⟩) (by decide) (by decide) d_LN_takeRestOfRange_68
    · rw [if_pos c30] at hf
      refine lv_null C.1.1 C.1.2.1 d_LN_takeRestOfRange_53 ?_
      cases hf
      exact hq_aret C I (Or.inl ⟨_, rfl⟩) (by decide) (by decide) d_LN_takeRestOfRange_54
set_option maxRecDepth 100000 in
set_option maxHeartbeats 4000000 in
theorem k_LN_takeRestOfRange (l : Launch) (G : hp_G) (B : Nat) (h : hp_H) (t0 : Nat) (p1 : Option Nat) (p2 : Int32) (out : Option Nat × hp_H) (hf : f_LN_takeRestOfRange h t0 p1 p2 = some out) : Met l y_LN_takeRestOfRange (.code y_LN_takeRestOfRange b_LN_takeRestOfRange 5 ((Option.some (Jvm.ClassFile.FieldType.object "LayeredLauncher$Range"))) :: gt) ({ frames := 3, cells := 3, slots := 18, locals := 70 }) (hq_Pc G vwCl aTs B h [.ref t0, va_rf p1, .int p2]) (hq_Q G vwCl B (some (va_rf out.1)) out.2) 3 18 (fun q => B ≤ q) := by
  refine hq_enter (nL := 5) (by decide +kernel) (by simp [lg_sl, hq_cat, hq_catI, hq_catL, hq_catR]) ?_
  intro p e s m args below meth c C I ls hl
  have hl : lv_has ls 5 [(0, va_rf (some t0)), (1, va_rf p1), (2, .int p2)] := by simp [lv_args, hq_cat, hq_catI, hq_catL, hq_catR] at hl; exact hl
  unfold f_LN_takeRestOfRange at hf
  refine lv_null C.1.1 C.1.2.1 d_LN_takeRestOfRange_0 ?_
  refine hq_astore_n (r := none) (i := 3) (lv' := [(3, va_rf none), (0, va_rf (some t0)), (1, va_rf p1), (2, .int p2)]) C.1.1 C.1.2.1 d_LN_takeRestOfRange_1 rfl hl (by decide) (by first | rfl | simp [hq_cat, hq_catI, hq_catL]) (fun ls hl => ?_)
  refine hq_aload_n C.1.1 C.1.2.1 d_LN_takeRestOfRange_2 rfl (lv_at hl 1 rfl) ?_
  refine lv_bipush (v := 93) C.1.1 C.1.2.1 d_LN_takeRestOfRange_3 (by decide) ?_
  replace hf := Option.bind_eq_some_iff.mp hf
  obtain ⟨b3, e4, hf⟩ := hf
  obtain ⟨e4r, _, e4c⟩ := hp_o_inv e4
  cases e4r
  replace hf := Option.bind_eq_some_iff.mp hf
  obtain ⟨q1, e2, hf⟩ := hf
  refine hq_callW gt_good C I hl.1 (k_LN_standsAt l G B _ t0 (93 : Int32) q1 e2) M_LN_31 e4c rfl ⟨rfl, rfl⟩ ⟨Nat.le_of_ble_eq_true rfl, Nat.le_of_ble_eq_true rfl⟩ rfl (Nat.le_of_ble_eq_true rfl) d_LN_takeRestOfRange_5 ⟨Nat.le_of_ble_eq_true rfl, Nat.le_of_ble_eq_true rfl⟩ (fun H locs I => ?_)
  refine W.widen (k := 0) (n := 0) (by decide) (by decide) ?_
  refine lv_if_ne (tgt := 31) C.1.1 C.1.2.1 d_LN_takeRestOfRange_8 (by decide) (fun c5 => ?_) (fun c5 => ?_)
  · rw [if_neg c5] at hf
    refine W.widen (k := 2) (n := 13) (by decide) (by decide) ?_
    exact k_LN_takeRestOfRange_L31 C t0 p1 p2 none q1.2 _ hf _ _ I ls (lv_sub hl [1, 2, 3, 0] rfl)
  · rw [if_pos c5] at hf
    refine hq_aload_n C.1.1 C.1.2.1 d_LN_takeRestOfRange_11 rfl (lv_at hl 1 rfl) ?_
    refine lv_bipush (v := 41) C.1.1 C.1.2.1 d_LN_takeRestOfRange_12 (by decide) ?_
    replace hf := Option.bind_eq_some_iff.mp hf
    obtain ⟨b8, e9, hf⟩ := hf
    obtain ⟨e9r, _, e9c⟩ := hp_o_inv e9
    cases e9r
    replace hf := Option.bind_eq_some_iff.mp hf
    obtain ⟨q6, e7, hf⟩ := hf
    refine hq_callW gt_good C I hl.1 (k_LN_standsAt l G B _ t0 (41 : Int32) q6 e7) M_LN_31 e9c rfl ⟨rfl, rfl⟩ ⟨Nat.le_of_ble_eq_true rfl, Nat.le_of_ble_eq_true rfl⟩ rfl (Nat.le_of_ble_eq_true rfl) d_LN_takeRestOfRange_14 ⟨Nat.le_of_ble_eq_true rfl, Nat.le_of_ble_eq_true rfl⟩ (fun H locs I => ?_)
    refine W.widen (k := 0) (n := 0) (by decide) (by decide) ?_
    refine lv_if_ne (tgt := 31) C.1.1 C.1.2.1 d_LN_takeRestOfRange_17 (by decide) (fun c10 => ?_) (fun c10 => ?_)
    · rw [if_neg c10] at hf
      refine W.widen (k := 2) (n := 13) (by decide) (by decide) ?_
      exact k_LN_takeRestOfRange_L31 C t0 p1 p2 none q6.2 _ hf _ _ I ls (lv_sub hl [1, 2, 3, 0] rfl)
    · rw [if_pos c10] at hf
      refine hq_aload_n C.1.1 C.1.2.1 d_LN_takeRestOfRange_20 rfl (lv_at hl 1 rfl) ?_
      replace hf := Option.bind_eq_some_iff.mp hf
      obtain ⟨b13, e14, hf⟩ := hf
      obtain ⟨e14r, _, e14c⟩ := hp_o_inv e14
      cases e14r
      replace hf := Option.bind_eq_some_iff.mp hf
      obtain ⟨q11, e12, hf⟩ := hf
      refine hq_callW gt_good C I hl.1 (k_LN_takeVersion l G B _ t0 q11 e12) M_LN_69 e14c rfl ⟨rfl, rfl⟩ ⟨Nat.le_of_ble_eq_true rfl, Nat.le_of_ble_eq_true rfl⟩ rfl (Nat.le_of_ble_eq_true rfl) d_LN_takeRestOfRange_21 ⟨Nat.le_of_ble_eq_true rfl, Nat.le_of_ble_eq_true rfl⟩ (fun H locs I => ?_)
      refine W.widen (k := 2) (n := 13) (by decide) (by decide) ?_
      refine hq_astore_n (r := q11.1) (i := 3) (lv' := [(3, va_rf q11.1), (0, va_rf (some t0)), (1, va_rf p1), (2, .int p2)]) C.1.1 C.1.2.1 d_LN_takeRestOfRange_24 rfl hl (by decide) (by first | rfl | simp [hq_cat, hq_catI, hq_catL]) (fun ls hl => ?_)
      refine hq_aload_n C.1.1 C.1.2.1 d_LN_takeRestOfRange_25 rfl (lv_at hl 0 rfl) ?_
      refine hq_ifnonnull (tgt := 31) C.1.1 C.1.2.1 d_LN_takeRestOfRange_26 (by decide) (fun c15 => ?_) (fun c15 => ?_)
      · rw [if_neg c15] at hf
        refine W.widen (k := 2) (n := 13) (by decide) (by decide) ?_
        exact k_LN_takeRestOfRange_L31 C t0 p1 p2 q11.1 q11.2 _ hf _ _ I ls (lv_sub hl [1, 2, 3, 0] rfl)
      · rw [if_pos c15] at hf
        refine lv_null C.1.1 C.1.2.1 d_LN_takeRestOfRange_29 ?_
        cases hf
        exact hq_aret C I (Or.inl ⟨_, rfl⟩) (by decide) (by decide) d_LN_takeRestOfRange_30
