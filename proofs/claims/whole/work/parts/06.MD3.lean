set_option maxRecDepth 100000 in
set_option maxHeartbeats 4000000 in
theorem k_MD_depend_L83 {p : Program} {l : Launch} {e : Env} {s : State} {m : MethodId} {args : Array Value} {below : List Frame} {meth : Method} {c : Code} {G : hp_G} {B : Nat} (C : hq_C p s m args meth c b_MD_depend 6 ((Option.some Jvm.ClassFile.FieldType.int)) "LayeredLauncherModel" "depend" gt G vwCl aTs) : ∀ (n : Nat) (t0 : Nat) (y1 : Int32) (y2 : Int32) (y4 : Int32) (y5 : Int32) (h : hp_H) (out : Int32 × hp_H), f_MD_depend_L83 n t0 y1 y2 y4 y5 h = some out → ∀ (H : Heap) (locs : List Loc), hp_I G vwCl B s.heap h H locs → ∀ ls : Array Slot, lv_has ls 6 [(0, va_rf (some t0)), (1, .int y1), (2, .int y2), (4, .int y4), (5, .int y5)] → W p l e ({ frames := 3, cells := 0, slots := 0, locals := 68 }) s m args below meth c H locs 0 0 (MQ below (hq_Q G vwCl B (some (.int out.1)) out.2) args s 0 0 (fun q => B ≤ q)) (F0 m 83 ls []) := by
  intro n
  induction n with
  | zero => intro t0 y1 y2 y4 y5 h out hf; simp [f_MD_depend_L83] at hf
  | succ n ih =>
    intro t0 y1 y2 y4 y5 h out hf H locs I ls hl
    simp only [f_MD_depend_L83] at hf
    refine lv_iload C.1.1 C.1.2.1 d_MD_depend_83 (lv_at hl 4 rfl) ?_
    refine hq_aload_n C.1.1 C.1.2.1 d_MD_depend_85 rfl (lv_at hl 0 rfl) ?_
    replace hf := Option.bind_eq_some_iff.mp hf
    obtain ⟨x38, e39, hf⟩ := hf
    refine hq_getI C I F_MD_17 e39 d_MD_depend_86 ?_
    refine lv_icmp_ge (tgt := 118) C.1.1 C.1.2.1 d_MD_depend_89 (by decide) (fun c40 => ?_) (fun c40 => ?_)
    · rw [if_pos c40] at hf
      refine hq_aload_n C.1.1 C.1.2.1 d_MD_depend_118 rfl (lv_at hl 0 rfl) ?_
      replace hf := Option.bind_eq_some_iff.mp hf
      obtain ⟨x41, e42, hf⟩ := hf
      refine hq_getR C I F_MD_48 e42 d_MD_depend_119 ?_
      refine lv_iload C.1.1 C.1.2.1 d_MD_depend_122 (lv_at hl 3 rfl) ?_
      refine hq_aload_n C.1.1 C.1.2.1 d_MD_depend_124 rfl (lv_at hl 0 rfl) ?_
      replace hf := Option.bind_eq_some_iff.mp hf
      obtain ⟨x43, e44, hf⟩ := hf
      refine hq_getI C I F_MD_17 e44 d_MD_depend_125 ?_
      replace hf := Option.bind_eq_some_iff.mp hf
      obtain ⟨h45, e46, hf⟩ := hf
      refine hq_iast C I (t := 0) rfl e46 d_MD_depend_128 (fun H locs I => ?_)
      refine hq_aload_n C.1.1 C.1.2.1 d_MD_depend_129 rfl (lv_at hl 0 rfl) ?_
      replace hf := Option.bind_eq_some_iff.mp hf
      obtain ⟨x47, e48, hf⟩ := hf
      refine hq_getR C I F_MD_45 e48 d_MD_depend_130 ?_
      refine lv_iload C.1.1 C.1.2.1 d_MD_depend_133 (lv_at hl 3 rfl) ?_
      refine lv_iload_n C.1.1 C.1.2.1 d_MD_depend_135 rfl (lv_at hl 2 rfl) ?_
      replace hf := Option.bind_eq_some_iff.mp hf
      obtain ⟨h49, e50, hf⟩ := hf
      refine hq_zast C I (t := 3) rfl e50 d_MD_depend_136 (fun H locs I => ?_)
      refine hq_aload_n C.1.1 C.1.2.1 d_MD_depend_137 rfl (lv_at hl 0 rfl) ?_
      replace hf := Option.bind_eq_some_iff.mp hf
      obtain ⟨x51, e52, hf⟩ := hf
      refine hq_getR C I F_MD_42 e52 d_MD_depend_138 ?_
      refine lv_iload_n C.1.1 C.1.2.1 d_MD_depend_141 rfl (lv_at hl 1 rfl) ?_
      refine lv_dup2_11 C.1.1 C.1.2.1 d_MD_depend_142 rfl (hq_cat _) ?_
      replace hf := Option.bind_eq_some_iff.mp hf
      obtain ⟨x53, e54, hf⟩ := hf
      refine hq_iald C I (t := 0) rfl e54 d_MD_depend_143 ?_
      refine lv_iconst (v := 1) C.1.1 C.1.2.1 d_MD_depend_144 (by decide) ?_
      refine lv_iadd C.1.1 C.1.2.1 d_MD_depend_145 ?_
      replace hf := Option.bind_eq_some_iff.mp hf
      obtain ⟨h55, e56, hf⟩ := hf
      refine hq_iast C I (t := 0) rfl e56 d_MD_depend_146 (fun H locs I => ?_)
      refine hq_aload_n C.1.1 C.1.2.1 d_MD_depend_147 rfl (lv_at hl 0 rfl) ?_
      replace hf := Option.bind_eq_some_iff.mp hf
      obtain ⟨x57, e58, hf⟩ := hf
      refine hq_getR C I F_MD_42 e58 d_MD_depend_148 ?_
      refine lv_iload_n C.1.1 C.1.2.1 d_MD_depend_151 rfl (lv_at hl 1 rfl) ?_
      replace hf := Option.bind_eq_some_iff.mp hf
      obtain ⟨x59, e60, hf⟩ := hf
      refine hq_iald C I (t := 0) rfl e60 d_MD_depend_152 ?_
      refine lv_iconst (v := 1) C.1.1 C.1.2.1 d_MD_depend_153 (by decide) ?_
      refine lv_isub C.1.1 C.1.2.1 d_MD_depend_154 ?_
      cases hf
      exact hq_iret C I (by decide) (by decide) d_MD_depend_155
    · rw [if_neg c40] at hf
      refine hq_aload_n C.1.1 C.1.2.1 d_MD_depend_92 rfl (lv_at hl 0 rfl) ?_
      replace hf := Option.bind_eq_some_iff.mp hf
      obtain ⟨x61, e62, hf⟩ := hf
      refine hq_getR C I F_MD_51 e62 d_MD_depend_93 ?_
      refine lv_iload C.1.1 C.1.2.1 d_MD_depend_96 (lv_at hl 3 rfl) ?_
      refine lv_bipush (v := 40) C.1.1 C.1.2.1 d_MD_depend_98 (by decide) ?_
      refine lv_imul C.1.1 C.1.2.1 d_MD_depend_100 ?_
      refine lv_iload C.1.1 C.1.2.1 d_MD_depend_101 (lv_at hl 4 rfl) ?_
      refine lv_iadd C.1.1 C.1.2.1 d_MD_depend_103 ?_
      refine hq_aload_n C.1.1 C.1.2.1 d_MD_depend_104 rfl (lv_at hl 0 rfl) ?_
      replace hf := Option.bind_eq_some_iff.mp hf
      obtain ⟨x63, e64, hf⟩ := hf
      refine hq_getR C I F_MD_20 e64 d_MD_depend_105 ?_
      refine lv_iload C.1.1 C.1.2.1 d_MD_depend_108 (lv_at hl 4 rfl) ?_
      replace hf := Option.bind_eq_some_iff.mp hf
      obtain ⟨x65, e66, hf⟩ := hf
      refine hq_iald C I (t := 0) rfl e66 d_MD_depend_110 ?_
      replace hf := Option.bind_eq_some_iff.mp hf
      obtain ⟨h67, e68, hf⟩ := hf
      refine hq_iast C I (t := 0) rfl e68 d_MD_depend_111 (fun H locs I => ?_)
      refine lv_iinc (v := (y5 + 1)) (lv' := [(5, .int (y5 + 1)), (0, va_rf (some t0)), (1, .int y1), (2, .int y2), (4, .int y4)]) C.1.1 C.1.2.1 d_MD_depend_112 hl (k := 4) rfl rfl (by decide) (by first | rfl | simp [hq_cat, hq_catI, hq_catL]) (fun ls hl => ?_)
      refine lv_goto (tgt := 83) C.1.1 C.1.2.1 d_MD_depend_115 (by decide) ?_
      refine W.widen (k := 0) (n := 0) (by decide) (by decide) ?_
      exact ih t0 y1 y2 y4 (y5 + 1) h67 _ hf _ _ I ls (lv_sub hl [1, 2, 3, 4, 0] rfl)
set_option maxRecDepth 100000 in
set_option maxHeartbeats 4000000 in
theorem k_MD_depend (l : Launch) (G : hp_G) (B : Nat) (h : hp_H) (t0 : Nat) (p1 : Int32) (p2 : Int32) (out : Int32 × hp_H) (hf : f_MD_depend h t0 p1 p2 = some out) : Met l y_MD_depend (.code y_MD_depend b_MD_depend 6 ((Option.some Jvm.ClassFile.FieldType.int)) :: gt) ({ frames := 3, cells := 0, slots := 0, locals := 68 }) (hq_Pc G vwCl aTs B h [.ref t0, .int p1, .int p2]) (hq_Q G vwCl B (some (.int out.1)) out.2) 0 0 (fun q => B ≤ q) := by
  refine hq_enter (nL := 6) (by decide +kernel) (Nat.le_of_ble_eq_true rfl) ?_
  intro p e s m args below meth c C I ls hl
  have hl : lv_has ls 6 [(0, va_rf (some t0)), (1, .int p1), (2, .int p2)] := hl
  unfold f_MD_depend at hf
  refine hq_aload_n C.1.1 C.1.2.1 d_MD_depend_0 rfl (lv_at hl 0 rfl) ?_
  replace hf := Option.bind_eq_some_iff.mp hf
  obtain ⟨b3, e4, hf⟩ := hf
  obtain ⟨e4r, _, e4c⟩ := hp_o_inv e4
  cases e4r
  replace hf := Option.bind_eq_some_iff.mp hf
  obtain ⟨q1, e2, hf⟩ := hf
  refine hq_callW gt_good C I hl.1 (k_MD_take l G B _ t0 q1 e2) M_MD_158 e4c rfl ⟨rfl, rfl⟩ ⟨Nat.le_of_ble_eq_true rfl, Nat.le_of_ble_eq_true rfl⟩ rfl (Nat.le_of_ble_eq_true rfl) d_MD_depend_1 ⟨Nat.le_of_ble_eq_true rfl, Nat.le_of_ble_eq_true rfl⟩ (fun H locs I => ?_)
  refine W.widen (k := 0) (n := 0) (by decide) (by decide) ?_
  refine hq_aload_n C.1.1 C.1.2.1 d_MD_depend_4 rfl (lv_at hl 0 rfl) ?_
  refine lv_iload_n C.1.1 C.1.2.1 d_MD_depend_5 rfl (lv_at hl 1 rfl) ?_
  replace hf := Option.bind_eq_some_iff.mp hf
  obtain ⟨b7, e8, hf⟩ := hf
  obtain ⟨e8r, _, e8c⟩ := hp_o_inv e8
  cases e8r
  replace hf := Option.bind_eq_some_iff.mp hf
  obtain ⟨q5, e6, hf⟩ := hf
  refine hq_callW gt_good C I hl.1 (k_MD_none l G B _ t0 p1 q5 e6) M_MD_164 e8c rfl ⟨rfl, rfl⟩ ⟨Nat.le_of_ble_eq_true rfl, Nat.le_of_ble_eq_true rfl⟩ rfl (Nat.le_of_ble_eq_true rfl) d_MD_depend_6 ⟨Nat.le_of_ble_eq_true rfl, Nat.le_of_ble_eq_true rfl⟩ (fun H locs I => ?_)
  refine W.widen (k := 0) (n := 0) (by decide) (by decide) ?_
  refine lv_if_eq (tgt := 14) C.1.1 C.1.2.1 d_MD_depend_9 (by decide) (fun c9 => ?_) (fun c9 => ?_)
  · rw [if_pos c9] at hf
    refine hq_aload_n C.1.1 C.1.2.1 d_MD_depend_14 rfl (lv_at hl 0 rfl) ?_
    replace hf := Option.bind_eq_some_iff.mp hf
    obtain ⟨b12, e13, hf⟩ := hf
    obtain ⟨e13r, _, e13c⟩ := hp_o_inv e13
    cases e13r
    replace hf := Option.bind_eq_some_iff.mp hf
    obtain ⟨q10, e11, hf⟩ := hf
    refine hq_callW gt_good C I hl.1 (k_MD_colonAt l G B _ t0 q10 e11) M_MD_146 e13c rfl ⟨rfl, rfl⟩ ⟨Nat.le_of_ble_eq_true rfl, Nat.le_of_ble_eq_true rfl⟩ rfl (Nat.le_of_ble_eq_true rfl) d_MD_depend_15 ⟨Nat.le_of_ble_eq_true rfl, Nat.le_of_ble_eq_true rfl⟩ (fun H locs I => ?_)
    refine W.widen (k := 0) (n := 0) (by decide) (by decide) ?_
    refine lv_istore_n (i := 3) (lv' := [(3, .int q10.1), (0, va_rf (some t0)), (1, .int p1), (2, .int p2)]) C.1.1 C.1.2.1 d_MD_depend_18 rfl hl (by decide) (by first | rfl | simp [hq_cat, hq_catI, hq_catL]) (fun ls hl => ?_)
    refine hq_aload_n C.1.1 C.1.2.1 d_MD_depend_19 rfl (lv_at hl 1 rfl) ?_
    refine lv_iconst (v := 0) C.1.1 C.1.2.1 d_MD_depend_20 (by decide) ?_
    refine lv_iload_n C.1.1 C.1.2.1 d_MD_depend_21 rfl (lv_at hl 0 rfl) ?_
    replace hf := Option.bind_eq_some_iff.mp hf
    obtain ⟨b16, e17, hf⟩ := hf
    obtain ⟨e17r, _, e17c⟩ := hp_o_inv e17
    cases e17r
    replace hf := Option.bind_eq_some_iff.mp hf
    obtain ⟨q14, e15, hf⟩ := hf
    refine hq_callW gt_good C I hl.1 (k_MD_isName l G B _ t0 (0 : Int32) q10.1 q14 e15) M_MD_161 e17c rfl ⟨rfl, rfl⟩ ⟨Nat.le_of_ble_eq_true rfl, Nat.le_of_ble_eq_true rfl⟩ rfl (Nat.le_of_ble_eq_true rfl) d_MD_depend_22 ⟨Nat.le_of_ble_eq_true rfl, Nat.le_of_ble_eq_true rfl⟩ (fun H locs I => ?_)
    refine W.widen (k := 0) (n := 0) (by decide) (by decide) ?_
    refine lv_if_eq (tgt := 50) C.1.1 C.1.2.1 d_MD_depend_25 (by decide) (fun c18 => ?_) (fun c18 => ?_)
    · rw [if_pos c18] at hf
      refine lv_bipush (v := -3) C.1.1 C.1.2.1 d_MD_depend_50 (by decide) ?_
      cases hf
      exact hq_iret C I (by decide) (by decide) d_MD_depend_52
    · rw [if_neg c18] at hf
      refine lv_iload_n C.1.1 C.1.2.1 d_MD_depend_28 rfl (lv_at hl 0 rfl) ?_
      refine hq_aload_n C.1.1 C.1.2.1 d_MD_depend_29 rfl (lv_at hl 1 rfl) ?_
      replace hf := Option.bind_eq_some_iff.mp hf
      obtain ⟨x19, e20, hf⟩ := hf
      refine hq_getI C I F_MD_17 e20 d_MD_depend_30 ?_
      refine lv_icmp_eq (tgt := 50) C.1.1 C.1.2.1 d_MD_depend_33 (by decide) (fun c21 => ?_) (fun c21 => ?_)
      · rw [if_pos c21] at hf
        refine lv_bipush (v := -3) C.1.1 C.1.2.1 d_MD_depend_50 (by decide) ?_
        cases hf
        exact hq_iret C I (by decide) (by decide) d_MD_depend_52
      · rw [if_neg c21] at hf
        refine hq_aload_n C.1.1 C.1.2.1 d_MD_depend_36 rfl (lv_at hl 1 rfl) ?_
        refine lv_iload_n C.1.1 C.1.2.1 d_MD_depend_37 rfl (lv_at hl 0 rfl) ?_
        refine lv_iconst (v := 1) C.1.1 C.1.2.1 d_MD_depend_38 (by decide) ?_
        refine lv_iadd C.1.1 C.1.2.1 d_MD_depend_39 ?_
        refine hq_aload_n C.1.1 C.1.2.1 d_MD_depend_40 rfl (lv_at hl 1 rfl) ?_
        replace hf := Option.bind_eq_some_iff.mp hf
        obtain ⟨x22, e23, hf⟩ := hf
        refine hq_getI C I F_MD_17 e23 d_MD_depend_41 ?_
        replace hf := Option.bind_eq_some_iff.mp hf
        obtain ⟨b26, e27, hf⟩ := hf
        obtain ⟨e27r, _, e27c⟩ := hp_o_inv e27
        cases e27r
        replace hf := Option.bind_eq_some_iff.mp hf
        obtain ⟨q24, e25, hf⟩ := hf
        refine hq_callW gt_good C I hl.1 (k_MD_isRange l G B _ t0 (q10.1 + (1 : Int32)) x22 q24 e25) M_MD_167 e27c rfl ⟨rfl, rfl⟩ ⟨Nat.le_of_ble_eq_true rfl, Nat.le_of_ble_eq_true rfl⟩ rfl (Nat.le_of_ble_eq_true rfl) d_MD_depend_44 ⟨Nat.le_of_ble_eq_true rfl, Nat.le_of_ble_eq_true rfl⟩ (fun H locs I => ?_)
        refine W.widen (k := 0) (n := 0) (by decide) (by decide) ?_
        refine lv_if_ne (tgt := 53) C.1.1 C.1.2.1 d_MD_depend_47 (by decide) (fun c28 => ?_) (fun c28 => ?_)
        · rw [if_neg c28] at hf
          refine hq_aload_n C.1.1 C.1.2.1 d_MD_depend_53 rfl (lv_at hl 1 rfl) ?_
          replace hf := Option.bind_eq_some_iff.mp hf
          obtain ⟨x29, e30, hf⟩ := hf
          refine hq_getR C I F_MD_42 e30 d_MD_depend_54 ?_
          refine lv_iload_n C.1.1 C.1.2.1 d_MD_depend_57 rfl (lv_at hl 2 rfl) ?_
          replace hf := Option.bind_eq_some_iff.mp hf
          obtain ⟨x31, e32, hf⟩ := hf
          refine hq_iald C I (t := 0) rfl e32 d_MD_depend_58 ?_
          refine lv_bipush (v := 6) C.1.1 C.1.2.1 d_MD_depend_59 (by decide) ?_
          refine lv_icmp_ne (tgt := 67) C.1.1 C.1.2.1 d_MD_depend_61 (by decide) (fun c33 => ?_) (fun c33 => ?_)
          · rw [if_neg c33] at hf
            refine lv_iload_n C.1.1 C.1.2.1 d_MD_depend_67 rfl (lv_at hl 2 rfl) ?_
            refine lv_bipush (v := 6) C.1.1 C.1.2.1 d_MD_depend_68 (by decide) ?_
            refine lv_imul C.1.1 C.1.2.1 d_MD_depend_70 ?_
            refine hq_aload_n C.1.1 C.1.2.1 d_MD_depend_71 rfl (lv_at hl 1 rfl) ?_
            replace hf := Option.bind_eq_some_iff.mp hf
            obtain ⟨x34, e35, hf⟩ := hf
            refine hq_getR C I F_MD_42 e35 d_MD_depend_72 ?_
            refine lv_iload_n C.1.1 C.1.2.1 d_MD_depend_75 rfl (lv_at hl 2 rfl) ?_
            replace hf := Option.bind_eq_some_iff.mp hf
            obtain ⟨x36, e37, hf⟩ := hf
            refine hq_iald C I (t := 0) rfl e37 d_MD_depend_76 ?_
            refine lv_iadd C.1.1 C.1.2.1 d_MD_depend_77 ?_
            refine lv_istore (i := 4) (lv' := [(4, .int ((p1 * (6 : Int32)) + x36)), (3, .int q10.1), (0, va_rf (some t0)), (1, .int p1), (2, .int p2)]) C.1.1 C.1.2.1 d_MD_depend_78 hl (by decide) (by first | rfl | simp [hq_cat, hq_catI, hq_catL]) (fun ls hl => ?_)
            refine lv_iconst (v := 0) C.1.1 C.1.2.1 d_MD_depend_80 (by decide) ?_
            refine lv_istore (i := 5) (lv' := [(5, .int (0 : Int32)), (4, .int ((p1 * (6 : Int32)) + x36)), (3, .int q10.1), (0, va_rf (some t0)), (1, .int p1), (2, .int p2)]) C.1.1 C.1.2.1 d_MD_depend_81 hl (by decide) (by first | rfl | simp [hq_cat, hq_catI, hq_catL]) (fun ls hl => ?_)
            refine W.widen (k := 0) (n := 0) (by decide) (by decide) ?_
            exact k_MD_depend_L83 C FU t0 p1 p2 ((p1 * (6 : Int32)) + x36) (0 : Int32) q24.2 _ hf _ _ I ls (lv_sub hl [3, 4, 5, 1, 0] rfl)
          · rw [if_pos c33] at hf
            refine lv_bipush (v := -2) C.1.1 C.1.2.1 d_MD_depend_64 (by decide) ?_
            cases hf
            exact hq_iret C I (by decide) (by decide) d_MD_depend_66
        · rw [if_pos c28] at hf
          refine lv_bipush (v := -3) C.1.1 C.1.2.1 d_MD_depend_50 (by decide) ?_
          cases hf
          exact hq_iret C I (by decide) (by decide) d_MD_depend_52
  · rw [if_neg c9] at hf
    refine lv_iconst (v := -1) C.1.1 C.1.2.1 d_MD_depend_12 (by decide) ?_
    cases hf
    exact hq_iret C I (by decide) (by decide) d_MD_depend_13
set_option maxRecDepth 100000 in
set_option maxHeartbeats 4000000 in
theorem k_MD_exclude_L79 {p : Program} {l : Launch} {e : Env} {s : State} {m : MethodId} {args : Array Value} {below : List Frame} {meth : Method} {c : Code} {G : hp_G} {B : Nat} (C : hq_C p s m args meth c b_MD_exclude 5 ((Option.some Jvm.ClassFile.FieldType.int)) "LayeredLauncherModel" "exclude" gt G vwCl aTs) : ∀ (n : Nat) (t0 : Nat) (y2 : Int32) (y3 : Int32) (y4 : Int32) (h : hp_H) (out : Int32 × hp_H), f_MD_exclude_L79 n t0 y2 y3 y4 h = some out → ∀ (H : Heap) (locs : List Loc), hp_I G vwCl B s.heap h H locs → ∀ ls : Array Slot, lv_has ls 5 [(0, va_rf (some t0)), (2, .int y2), (3, .int y3), (4, .int y4)] → W p l e ({ frames := 1, cells := 0, slots := 0, locals := 23 }) s m args below meth c H locs 0 0 (MQ below (hq_Q G vwCl B (some (.int out.1)) out.2) args s 0 0 (fun q => B ≤ q)) (F0 m 79 ls []) := by
  intro n
  induction n with
  | zero => intro t0 y2 y3 y4 h out hf; simp [f_MD_exclude_L79] at hf
  | succ n ih =>
    intro t0 y2 y3 y4 h out hf H locs I ls hl
    simp only [f_MD_exclude_L79] at hf
    refine lv_iload C.1.1 C.1.2.1 d_MD_exclude_79 (lv_at hl 3 rfl) ?_
    refine hq_aload_n C.1.1 C.1.2.1 d_MD_exclude_81 rfl (lv_at hl 0 rfl) ?_
    replace hf := Option.bind_eq_some_iff.mp hf
    obtain ⟨x35, e36, hf⟩ := hf
    refine hq_getI C I F_MD_17 e36 d_MD_exclude_82 ?_
    refine lv_icmp_ge (tgt := 113) C.1.1 C.1.2.1 d_MD_exclude_85 (by decide) (fun c37 => ?_) (fun c37 => ?_)
    · rw [if_pos c37] at hf
      refine hq_aload_n C.1.1 C.1.2.1 d_MD_exclude_113 rfl (lv_at hl 0 rfl) ?_
      replace hf := Option.bind_eq_some_iff.mp hf
      obtain ⟨x38, e39, hf⟩ := hf
      refine hq_getR C I F_MD_57 e39 d_MD_exclude_114 ?_
      refine lv_iload_n C.1.1 C.1.2.1 d_MD_exclude_117 rfl (lv_at hl 2 rfl) ?_
      refine hq_aload_n C.1.1 C.1.2.1 d_MD_exclude_118 rfl (lv_at hl 0 rfl) ?_
      replace hf := Option.bind_eq_some_iff.mp hf
      obtain ⟨x40, e41, hf⟩ := hf
      refine hq_getI C I F_MD_17 e41 d_MD_exclude_119 ?_
      replace hf := Option.bind_eq_some_iff.mp hf
      obtain ⟨h42, e43, hf⟩ := hf
      refine hq_iast C I (t := 0) rfl e43 d_MD_exclude_122 (fun H locs I => ?_)
      refine hq_aload_n C.1.1 C.1.2.1 d_MD_exclude_123 rfl (lv_at hl 0 rfl) ?_
      replace hf := Option.bind_eq_some_iff.mp hf
      obtain ⟨x44, e45, hf⟩ := hf
      refine hq_getR C I F_MD_54 e45 d_MD_exclude_124 ?_
      refine lv_iload_n C.1.1 C.1.2.1 d_MD_exclude_127 rfl (lv_at hl 1 rfl) ?_
      refine lv_dup2_11 C.1.1 C.1.2.1 d_MD_exclude_128 rfl (hq_cat _) ?_
      replace hf := Option.bind_eq_some_iff.mp hf
      obtain ⟨x46, e47, hf⟩ := hf
      refine hq_iald C I (t := 0) rfl e47 d_MD_exclude_129 ?_
      refine lv_iconst (v := 1) C.1.1 C.1.2.1 d_MD_exclude_130 (by decide) ?_
      refine lv_iadd C.1.1 C.1.2.1 d_MD_exclude_131 ?_
      replace hf := Option.bind_eq_some_iff.mp hf
      obtain ⟨h48, e49, hf⟩ := hf
      refine hq_iast C I (t := 0) rfl e49 d_MD_exclude_132 (fun H locs I => ?_)
      refine lv_iconst (v := 0) C.1.1 C.1.2.1 d_MD_exclude_133 (by decide) ?_
      cases hf
      exact hq_iret C I (by decide) (by decide) d_MD_exclude_134
    · rw [if_neg c37] at hf
      refine hq_aload_n C.1.1 C.1.2.1 d_MD_exclude_88 rfl (lv_at hl 0 rfl) ?_
      replace hf := Option.bind_eq_some_iff.mp hf
      obtain ⟨x50, e51, hf⟩ := hf
      refine hq_getR C I F_MD_60 e51 d_MD_exclude_89 ?_
      refine lv_iload_n C.1.1 C.1.2.1 d_MD_exclude_92 rfl (lv_at hl 2 rfl) ?_
      refine lv_bipush (v := 8) C.1.1 C.1.2.1 d_MD_exclude_93 (by decide) ?_
      refine lv_imul C.1.1 C.1.2.1 d_MD_exclude_95 ?_
      refine lv_iload C.1.1 C.1.2.1 d_MD_exclude_96 (lv_at hl 3 rfl) ?_
      refine lv_iadd C.1.1 C.1.2.1 d_MD_exclude_98 ?_
      refine hq_aload_n C.1.1 C.1.2.1 d_MD_exclude_99 rfl (lv_at hl 0 rfl) ?_
      replace hf := Option.bind_eq_some_iff.mp hf
      obtain ⟨x52, e53, hf⟩ := hf
      refine hq_getR C I F_MD_20 e53 d_MD_exclude_100 ?_
      refine lv_iload C.1.1 C.1.2.1 d_MD_exclude_103 (lv_at hl 3 rfl) ?_
      replace hf := Option.bind_eq_some_iff.mp hf
      obtain ⟨x54, e55, hf⟩ := hf
      refine hq_iald C I (t := 0) rfl e55 d_MD_exclude_105 ?_
      replace hf := Option.bind_eq_some_iff.mp hf
      obtain ⟨h56, e57, hf⟩ := hf
      refine hq_iast C I (t := 0) rfl e57 d_MD_exclude_106 (fun H locs I => ?_)
      refine lv_iinc (v := (y4 + 1)) (lv' := [(4, .int (y4 + 1)), (0, va_rf (some t0)), (2, .int y2), (3, .int y3)]) C.1.1 C.1.2.1 d_MD_exclude_107 hl (k := 3) rfl rfl (by decide) (by first | rfl | simp [hq_cat, hq_catI, hq_catL]) (fun ls hl => ?_)
      refine lv_goto (tgt := 79) C.1.1 C.1.2.1 d_MD_exclude_110 (by decide) ?_
      refine W.widen (k := 0) (n := 0) (by decide) (by decide) ?_
      exact ih t0 y2 y3 (y4 + 1) h56 _ hf _ _ I ls (lv_sub hl [1, 2, 3, 0] rfl)
set_option maxRecDepth 100000 in
set_option maxHeartbeats 4000000 in
theorem k_MD_exclude (l : Launch) (G : hp_G) (B : Nat) (h : hp_H) (t0 : Nat) (p1 : Int32) (out : Int32 × hp_H) (hf : f_MD_exclude h t0 p1 = some out) : Met l y_MD_exclude (.code y_MD_exclude b_MD_exclude 5 ((Option.some Jvm.ClassFile.FieldType.int)) :: gt) ({ frames := 1, cells := 0, slots := 0, locals := 23 }) (hq_Pc G vwCl aTs B h [.ref t0, .int p1]) (hq_Q G vwCl B (some (.int out.1)) out.2) 0 0 (fun q => B ≤ q) := by
  refine hq_enter (nL := 5) (by decide +kernel) (Nat.le_of_ble_eq_true rfl) ?_
  intro p e s m args below meth c C I ls hl
  have hl : lv_has ls 5 [(0, va_rf (some t0)), (1, .int p1)] := hl
  unfold f_MD_exclude at hf
  refine hq_aload_n C.1.1 C.1.2.1 d_MD_exclude_0 rfl (lv_at hl 0 rfl) ?_
  replace hf := Option.bind_eq_some_iff.mp hf
  obtain ⟨b3, e4, hf⟩ := hf
  obtain ⟨e4r, _, e4c⟩ := hp_o_inv e4
  cases e4r
  replace hf := Option.bind_eq_some_iff.mp hf
  obtain ⟨q1, e2, hf⟩ := hf
  refine hq_callW gt_good C I hl.1 (k_MD_take l G B _ t0 q1 e2) M_MD_158 e4c rfl ⟨rfl, rfl⟩ ⟨Nat.le_of_ble_eq_true rfl, Nat.le_of_ble_eq_true rfl⟩ rfl (Nat.le_of_ble_eq_true rfl) d_MD_exclude_1 ⟨Nat.le_of_ble_eq_true rfl, Nat.le_of_ble_eq_true rfl⟩ (fun H locs I => ?_)
  refine W.widen (k := 0) (n := 0) (by decide) (by decide) ?_
  refine hq_aload_n C.1.1 C.1.2.1 d_MD_exclude_4 rfl (lv_at hl 0 rfl) ?_
  refine lv_iload_n C.1.1 C.1.2.1 d_MD_exclude_5 rfl (lv_at hl 1 rfl) ?_
  replace hf := Option.bind_eq_some_iff.mp hf
  obtain ⟨b7, e8, hf⟩ := hf
  obtain ⟨e8r, _, e8c⟩ := hp_o_inv e8
  cases e8r
  replace hf := Option.bind_eq_some_iff.mp hf
  obtain ⟨q5, e6, hf⟩ := hf
  refine hq_callW gt_good C I hl.1 (k_MD_none l G B _ t0 p1 q5 e6) M_MD_164 e8c rfl ⟨rfl, rfl⟩ ⟨Nat.le_of_ble_eq_true rfl, Nat.le_of_ble_eq_true rfl⟩ rfl (Nat.le_of_ble_eq_true rfl) d_MD_exclude_6 ⟨Nat.le_of_ble_eq_true rfl, Nat.le_of_ble_eq_true rfl⟩ (fun H locs I => ?_)
  refine W.widen (k := 0) (n := 0) (by decide) (by decide) ?_
  refine lv_if_ne (tgt := 21) C.1.1 C.1.2.1 d_MD_exclude_9 (by decide) (fun c9 => ?_) (fun c9 => ?_)
  · rw [if_neg c9] at hf
    refine lv_iconst (v := -1) C.1.1 C.1.2.1 d_MD_exclude_21 (by decide) ?_
    cases hf
    exact hq_iret C I (by decide) (by decide) d_MD_exclude_22
  · rw [if_pos c9] at hf
    refine hq_aload_n C.1.1 C.1.2.1 d_MD_exclude_12 rfl (lv_at hl 0 rfl) ?_
    replace hf := Option.bind_eq_some_iff.mp hf
    obtain ⟨x10, e11, hf⟩ := hf
    refine hq_getR C I F_MD_42 e11 d_MD_exclude_13 ?_
    refine lv_iload_n C.1.1 C.1.2.1 d_MD_exclude_16 rfl (lv_at hl 1 rfl) ?_
    replace hf := Option.bind_eq_some_iff.mp hf
    obtain ⟨x12, e13, hf⟩ := hf
    refine hq_iald C I (t := 0) rfl e13 d_MD_exclude_17 ?_
    refine lv_if_ne (tgt := 23) C.1.1 C.1.2.1 d_MD_exclude_18 (by decide) (fun c14 => ?_) (fun c14 => ?_)
    · rw [if_neg c14] at hf
      refine hq_aload_n C.1.1 C.1.2.1 d_MD_exclude_23 rfl (lv_at hl 0 rfl) ?_
      refine lv_iconst (v := 0) C.1.1 C.1.2.1 d_MD_exclude_24 (by decide) ?_
      refine hq_aload_n C.1.1 C.1.2.1 d_MD_exclude_25 rfl (lv_at hl 0 rfl) ?_
      replace hf := Option.bind_eq_some_iff.mp hf
      obtain ⟨x15, e16, hf⟩ := hf
      refine hq_getI C I F_MD_17 e16 d_MD_exclude_26 ?_
      replace hf := Option.bind_eq_some_iff.mp hf
      obtain ⟨b19, e20, hf⟩ := hf
      obtain ⟨e20r, _, e20c⟩ := hp_o_inv e20
      cases e20r
      replace hf := Option.bind_eq_some_iff.mp hf
      obtain ⟨q17, e18, hf⟩ := hf
      refine hq_callW gt_good C I hl.1 (k_MD_isName l G B _ t0 (0 : Int32) x15 q17 e18) M_MD_161 e20c rfl ⟨rfl, rfl⟩ ⟨Nat.le_of_ble_eq_true rfl, Nat.le_of_ble_eq_true rfl⟩ rfl (Nat.le_of_ble_eq_true rfl) d_MD_exclude_29 ⟨Nat.le_of_ble_eq_true rfl, Nat.le_of_ble_eq_true rfl⟩ (fun H locs I => ?_)
      refine W.widen (k := 0) (n := 0) (by decide) (by decide) ?_
      refine lv_if_ne (tgt := 38) C.1.1 C.1.2.1 d_MD_exclude_32 (by decide) (fun c21 => ?_) (fun c21 => ?_)
      · rw [if_neg c21] at hf
        refine lv_iload_n C.1.1 C.1.2.1 d_MD_exclude_38 rfl (lv_at hl 1 rfl) ?_
        refine lv_bipush (v := 6) C.1.1 C.1.2.1 d_MD_exclude_39 (by decide) ?_
        refine lv_imul C.1.1 C.1.2.1 d_MD_exclude_41 ?_
        refine hq_aload_n C.1.1 C.1.2.1 d_MD_exclude_42 rfl (lv_at hl 0 rfl) ?_
        replace hf := Option.bind_eq_some_iff.mp hf
        obtain ⟨x22, e23, hf⟩ := hf
        refine hq_getR C I F_MD_42 e23 d_MD_exclude_43 ?_
        refine lv_iload_n C.1.1 C.1.2.1 d_MD_exclude_46 rfl (lv_at hl 1 rfl) ?_
        replace hf := Option.bind_eq_some_iff.mp hf
        obtain ⟨x24, e25, hf⟩ := hf
        refine hq_iald C I (t := 0) rfl e25 d_MD_exclude_47 ?_
        refine lv_iadd C.1.1 C.1.2.1 d_MD_exclude_48 ?_
        refine lv_iconst (v := 1) C.1.1 C.1.2.1 d_MD_exclude_49 (by decide) ?_
        refine lv_isub C.1.1 C.1.2.1 d_MD_exclude_50 ?_
        refine lv_istore_n (i := 2) (lv' := [(2, .int (((p1 * (6 : Int32)) + x24) - (1 : Int32))), (0, va_rf (some t0)), (1, .int p1)]) C.1.1 C.1.2.1 d_MD_exclude_51 rfl hl (by decide) (by first | rfl | simp [hq_cat, hq_catI, hq_catL]) (fun ls hl => ?_)
        refine hq_aload_n C.1.1 C.1.2.1 d_MD_exclude_52 rfl (lv_at hl 1 rfl) ?_
        replace hf := Option.bind_eq_some_iff.mp hf
        obtain ⟨x26, e27, hf⟩ := hf
        refine hq_getR C I F_MD_54 e27 d_MD_exclude_53 ?_
        refine lv_iload_n C.1.1 C.1.2.1 d_MD_exclude_56 rfl (lv_at hl 0 rfl) ?_
        replace hf := Option.bind_eq_some_iff.mp hf
        obtain ⟨x28, e29, hf⟩ := hf
        refine hq_iald C I (t := 0) rfl e29 d_MD_exclude_57 ?_
        refine lv_iconst (v := 3) C.1.1 C.1.2.1 d_MD_exclude_58 (by decide) ?_
        refine lv_icmp_ne (tgt := 65) C.1.1 C.1.2.1 d_MD_exclude_59 (by decide) (fun c30 => ?_) (fun c30 => ?_)
        · rw [if_neg c30] at hf
          refine lv_iload_n C.1.1 C.1.2.1 d_MD_exclude_65 rfl (lv_at hl 0 rfl) ?_
          refine lv_iconst (v := 3) C.1.1 C.1.2.1 d_MD_exclude_66 (by decide) ?_
          refine lv_imul C.1.1 C.1.2.1 d_MD_exclude_67 ?_
          refine hq_aload_n C.1.1 C.1.2.1 d_MD_exclude_68 rfl (lv_at hl 1 rfl) ?_
          replace hf := Option.bind_eq_some_iff.mp hf
          obtain ⟨x31, e32, hf⟩ := hf
          refine hq_getR C I F_MD_54 e32 d_MD_exclude_69 ?_
          refine lv_iload_n C.1.1 C.1.2.1 d_MD_exclude_72 rfl (lv_at hl 0 rfl) ?_
          replace hf := Option.bind_eq_some_iff.mp hf
          obtain ⟨x33, e34, hf⟩ := hf
          refine hq_iald C I (t := 0) rfl e34 d_MD_exclude_73 ?_
          refine lv_iadd C.1.1 C.1.2.1 d_MD_exclude_74 ?_
          refine lv_istore_n (i := 3) (lv' := [(3, .int (((((p1 * (6 : Int32)) + x24) - (1 : Int32)) * (3 : Int32)) + x33)), (2, .int (((p1 * (6 : Int32)) + x24) - (1 : Int32))), (0, va_rf (some t0)), (1, .int p1)]) C.1.1 C.1.2.1 d_MD_exclude_75 rfl hl (by decide) (by first | rfl | simp [hq_cat, hq_catI, hq_catL]) (fun ls hl => ?_)
          refine lv_iconst (v := 0) C.1.1 C.1.2.1 d_MD_exclude_76 (by decide) ?_
          refine lv_istore (i := 4) (lv' := [(4, .int (0 : Int32)), (3, .int (((((p1 * (6 : Int32)) + x24) - (1 : Int32)) * (3 : Int32)) + x33)), (2, .int (((p1 * (6 : Int32)) + x24) - (1 : Int32))), (0, va_rf (some t0)), (1, .int p1)]) C.1.1 C.1.2.1 d_MD_exclude_77 hl (by decide) (by first | rfl | simp [hq_cat, hq_catI, hq_catL]) (fun ls hl => ?_)
          refine W.widen (k := 0) (n := 0) (by decide) (by decide) ?_
          exact k_MD_exclude_L79 C FU t0 (((p1 * (6 : Int32)) + x24) - (1 : Int32)) (((((p1 * (6 : Int32)) + x24) - (1 : Int32)) * (3 : Int32)) + x33) (0 : Int32) q17.2 _ hf _ _ I ls (lv_sub hl [3, 2, 1, 0] rfl)
        · rw [if_pos c30] at hf
          refine lv_bipush (v := -2) C.1.1 C.1.2.1 d_MD_exclude_62 (by decide) ?_
          cases hf
          exact hq_iret C I (by decide) (by decide) d_MD_exclude_64
      · rw [if_pos c21] at hf
        refine lv_bipush (v := -3) C.1.1 C.1.2.1 d_MD_exclude_35 (by decide) ?_
        cases hf
        exact hq_iret C I (by decide) (by decide) d_MD_exclude_37
    · rw [if_pos c14] at hf
      refine lv_iconst (v := -1) C.1.1 C.1.2.1 d_MD_exclude_21 (by decide) ?_
      cases hf
      exact hq_iret C I (by decide) (by decide) d_MD_exclude_22
set_option maxRecDepth 100000 in
set_option maxHeartbeats 4000000 in
theorem k_MD_pack_L38 {p : Program} {l : Launch} {e : Env} {s : State} {m : MethodId} {args : Array Value} {below : List Frame} {meth : Method} {c : Code} {G : hp_G} {B : Nat} (C : hq_C p s m args meth c b_MD_pack 4 ((Option.some Jvm.ClassFile.FieldType.int)) "LayeredLauncherModel" "pack" gt G vwCl aTs) : ∀ (t0 : Nat) (y1 : Int32) (y2 : Int32) (y3 : Int32) (s0 : Int32) (h : hp_H) (out : Int32 × hp_H), f_MD_pack_L38 t0 y1 y2 y3 s0 h = some out → ∀ (H : Heap) (locs : List Loc), hp_I G vwCl B s.heap h H locs → ∀ ls : Array Slot, lv_has ls 4 [(0, va_rf (some t0)), (1, .int y1), (2, .int y2), (3, .int y3)] → W p l e ({ frames := 1, cells := 0, slots := 0, locals := 21 }) s m args below meth c H locs 0 0 (MQ below (hq_Q G vwCl B (some (.int out.1)) out.2) args s 0 0 (fun q => B ≤ q)) (F0 m 38 ls [.int s0]) := by
  intro t0 y1 y2 y3 s0 h out hf H locs I ls hl
  unfold f_MD_pack_L38 at hf
  refine lv_iload_n C.1.1 C.1.2.1 d_MD_pack_38 rfl (lv_at hl 3 rfl) ?_
  refine lv_icmp_eq (tgt := 54) C.1.1 C.1.2.1 d_MD_pack_39 (by decide) (fun c13 => ?_) (fun c13 => ?_)
  · rw [if_pos c13] at hf
    refine lv_iconst (v := 0) C.1.1 C.1.2.1 d_MD_pack_54 (by decide) ?_
    cases hf
    exact hq_iret C I (by decide) (by decide) d_MD_pack_55
  · rw [if_neg c13] at hf
    refine hq_aload_n C.1.1 C.1.2.1 d_MD_pack_42 rfl (lv_at hl 0 rfl) ?_
    replace hf := Option.bind_eq_some_iff.mp hf
    obtain ⟨x14, e15, hf⟩ := hf
    refine hq_getR C I F_MD_39 e15 d_MD_pack_43 ?_
    refine lv_iload_n C.1.1 C.1.2.1 d_MD_pack_46 rfl (lv_at hl 1 rfl) ?_
    refine lv_dup2_11 C.1.1 C.1.2.1 d_MD_pack_47 rfl (hq_cat _) ?_
    replace hf := Option.bind_eq_some_iff.mp hf
    obtain ⟨x16, e17, hf⟩ := hf
    refine hq_iald C I (t := 0) rfl e17 d_MD_pack_48 ?_
    refine lv_iconst (v := 1) C.1.1 C.1.2.1 d_MD_pack_49 (by decide) ?_
    refine lv_iload_n C.1.1 C.1.2.1 d_MD_pack_50 rfl (lv_at hl 2 rfl) ?_
    refine lv_ishl C.1.1 C.1.2.1 d_MD_pack_51 ?_
    refine lv_ixor C.1.1 C.1.2.1 d_MD_pack_52 ?_
    replace hf := Option.bind_eq_some_iff.mp hf
    obtain ⟨h18, e19, hf⟩ := hf
    refine hq_iast C I (t := 0) rfl e19 d_MD_pack_53 (fun H locs I => ?_)
    refine lv_iconst (v := 0) C.1.1 C.1.2.1 d_MD_pack_54 (by decide) ?_
    cases hf
    exact hq_iret C I (by decide) (by decide) d_MD_pack_55
set_option maxRecDepth 100000 in
set_option maxHeartbeats 4000000 in
theorem k_MD_pack (l : Launch) (G : hp_G) (B : Nat) (h : hp_H) (t0 : Nat) (p1 : Int32) (p2 : Int32) (p3 : Int32) (out : Int32 × hp_H) (hf : f_MD_pack h t0 p1 p2 p3 = some out) : Met l y_MD_pack (.code y_MD_pack b_MD_pack 4 ((Option.some Jvm.ClassFile.FieldType.int)) :: gt) ({ frames := 1, cells := 0, slots := 0, locals := 21 }) (hq_Pc G vwCl aTs B h [.ref t0, .int p1, .int p2, .int p3]) (hq_Q G vwCl B (some (.int out.1)) out.2) 0 0 (fun q => B ≤ q) := by
  refine hq_enter (nL := 4) (by decide +kernel) (Nat.le_of_ble_eq_true rfl) ?_
  intro p e s m args below meth c C I ls hl
  have hl : lv_has ls 4 [(0, va_rf (some t0)), (1, .int p1), (2, .int p2), (3, .int p3)] := hl
  unfold f_MD_pack at hf
  refine hq_aload_n C.1.1 C.1.2.1 d_MD_pack_0 rfl (lv_at hl 0 rfl) ?_
  refine lv_iload_n C.1.1 C.1.2.1 d_MD_pack_1 rfl (lv_at hl 1 rfl) ?_
  replace hf := Option.bind_eq_some_iff.mp hf
  obtain ⟨b3, e4, hf⟩ := hf
  obtain ⟨e4r, _, e4c⟩ := hp_o_inv e4
  cases e4r
  replace hf := Option.bind_eq_some_iff.mp hf
  obtain ⟨q1, e2, hf⟩ := hf
  refine hq_callW gt_good C I hl.1 (k_MD_none l G B _ t0 p1 q1 e2) M_MD_164 e4c rfl ⟨rfl, rfl⟩ ⟨Nat.le_of_ble_eq_true rfl, Nat.le_of_ble_eq_true rfl⟩ rfl (Nat.le_of_ble_eq_true rfl) d_MD_pack_2 ⟨Nat.le_of_ble_eq_true rfl, Nat.le_of_ble_eq_true rfl⟩ (fun H locs I => ?_)
  refine W.widen (k := 0) (n := 0) (by decide) (by decide) ?_
  refine lv_if_ne (tgt := 18) C.1.1 C.1.2.1 d_MD_pack_5 (by decide) (fun c5 => ?_) (fun c5 => ?_)
  · rw [if_neg c5] at hf
    refine lv_iconst (v := -1) C.1.1 C.1.2.1 d_MD_pack_18 (by decide) ?_
    cases hf
    exact hq_iret C I (by decide) (by decide) d_MD_pack_19
  · rw [if_pos c5] at hf
    refine lv_iload_n C.1.1 C.1.2.1 d_MD_pack_8 rfl (lv_at hl 2 rfl) ?_
    refine lv_if_lt (tgt := 18) C.1.1 C.1.2.1 d_MD_pack_9 (by decide) (fun c6 => ?_) (fun c6 => ?_)
    · rw [if_pos c6] at hf
      refine lv_iconst (v := -1) C.1.1 C.1.2.1 d_MD_pack_18 (by decide) ?_
      cases hf
      exact hq_iret C I (by decide) (by decide) d_MD_pack_19
    · rw [if_neg c6] at hf
      refine lv_iload_n C.1.1 C.1.2.1 d_MD_pack_12 rfl (lv_at hl 2 rfl) ?_
      refine lv_bipush (v := 31) C.1.1 C.1.2.1 d_MD_pack_13 (by decide) ?_
      refine lv_icmp_le (tgt := 20) C.1.1 C.1.2.1 d_MD_pack_15 (by decide) (fun c7 => ?_) (fun c7 => ?_)
      · rw [if_pos c7] at hf
        refine hq_aload_n C.1.1 C.1.2.1 d_MD_pack_20 rfl (lv_at hl 0 rfl) ?_
        replace hf := Option.bind_eq_some_iff.mp hf
        obtain ⟨x8, e9, hf⟩ := hf
        refine hq_getR C I F_MD_39 e9 d_MD_pack_21 ?_
        refine lv_iload_n C.1.1 C.1.2.1 d_MD_pack_24 rfl (lv_at hl 1 rfl) ?_
        replace hf := Option.bind_eq_some_iff.mp hf
        obtain ⟨x10, e11, hf⟩ := hf
        refine hq_iald C I (t := 0) rfl e11 d_MD_pack_25 ?_
        refine lv_iload_n C.1.1 C.1.2.1 d_MD_pack_26 rfl (lv_at hl 2 rfl) ?_
        refine lv_ishr C.1.1 C.1.2.1 d_MD_pack_27 ?_
        refine lv_iconst (v := 1) C.1.1 C.1.2.1 d_MD_pack_28 (by decide) ?_
        refine lv_iand C.1.1 C.1.2.1 d_MD_pack_29 ?_
        refine lv_if_eq (tgt := 37) C.1.1 C.1.2.1 d_MD_pack_30 (by decide) (fun c12 => ?_) (fun c12 => ?_)
        · rw [if_pos c12] at hf
          refine lv_iconst (v := 0) C.1.1 C.1.2.1 d_MD_pack_37 (by decide) ?_
          refine W.widen (k := 0) (n := 0) (by decide) (by decide) ?_
          exact k_MD_pack_L38 C t0 p1 p2 p3 (0 : Int32) q1.2 _ hf _ _ I ls (lv_sub hl [0, 1, 2, 3] rfl)
        · rw [if_neg c12] at hf
          refine lv_iconst (v := 1) C.1.1 C.1.2.1 d_MD_pack_33 (by decide) ?_
          refine lv_goto (tgt := 38) C.1.1 C.1.2.1 d_MD_pack_34 (by decide) ?_
          refine W.widen (k := 0) (n := 0) (by decide) (by decide) ?_
          exact k_MD_pack_L38 C t0 p1 p2 p3 (1 : Int32) q1.2 _ hf _ _ I ls (lv_sub hl [0, 1, 2, 3] rfl)
      · rw [if_neg c7] at hf
        refine lv_iconst (v := -1) C.1.1 C.1.2.1 d_MD_pack_18 (by decide) ?_
        cases hf
        exact hq_iret C I (by decide) (by decide) d_MD_pack_19
set_option maxRecDepth 100000 in
set_option maxHeartbeats 4000000 in
theorem k_MD_retire (l : Launch) (G : hp_G) (B : Nat) (h : hp_H) (t0 : Nat) (p1 : Int32) (out : Int32 × hp_H) (hf : f_MD_retire h t0 p1 = some out) : Met l y_MD_retire (.code y_MD_retire b_MD_retire 2 ((Option.some Jvm.ClassFile.FieldType.int)) :: gt) ({ frames := 1, cells := 0, slots := 0, locals := 21 }) (hq_Pc G vwCl aTs B h [.ref t0, .int p1]) (hq_Q G vwCl B (some (.int out.1)) out.2) 0 0 (fun q => B ≤ q) := by
  refine hq_enter (nL := 2) (by decide +kernel) (Nat.le_of_ble_eq_true rfl) ?_
  intro p e s m args below meth c C I ls hl
  have hl : lv_has ls 2 [(0, va_rf (some t0)), (1, .int p1)] := hl
  unfold f_MD_retire at hf
  refine hq_aload_n C.1.1 C.1.2.1 d_MD_retire_0 rfl (lv_at hl 0 rfl) ?_
  refine lv_iload_n C.1.1 C.1.2.1 d_MD_retire_1 rfl (lv_at hl 1 rfl) ?_
  replace hf := Option.bind_eq_some_iff.mp hf
  obtain ⟨b3, e4, hf⟩ := hf
  obtain ⟨e4r, _, e4c⟩ := hp_o_inv e4
  cases e4r
  replace hf := Option.bind_eq_some_iff.mp hf
  obtain ⟨q1, e2, hf⟩ := hf
  refine hq_callW gt_good C I hl.1 (k_MD_none l G B _ t0 p1 q1 e2) M_MD_164 e4c rfl ⟨rfl, rfl⟩ ⟨Nat.le_of_ble_eq_true rfl, Nat.le_of_ble_eq_true rfl⟩ rfl (Nat.le_of_ble_eq_true rfl) d_MD_retire_2 ⟨Nat.le_of_ble_eq_true rfl, Nat.le_of_ble_eq_true rfl⟩ (fun H locs I => ?_)
  refine W.widen (k := 0) (n := 0) (by decide) (by decide) ?_
  refine lv_if_ne (tgt := 17) C.1.1 C.1.2.1 d_MD_retire_5 (by decide) (fun c5 => ?_) (fun c5 => ?_)
  · rw [if_neg c5] at hf
    refine lv_iconst (v := -1) C.1.1 C.1.2.1 d_MD_retire_17 (by decide) ?_
    cases hf
    exact hq_iret C I (by decide) (by decide) d_MD_retire_18
  · rw [if_pos c5] at hf
    refine hq_aload_n C.1.1 C.1.2.1 d_MD_retire_8 rfl (lv_at hl 0 rfl) ?_
    replace hf := Option.bind_eq_some_iff.mp hf
    obtain ⟨x6, e7, hf⟩ := hf
    refine hq_getR C I F_MD_35 e7 d_MD_retire_9 ?_
    refine lv_iload_n C.1.1 C.1.2.1 d_MD_retire_12 rfl (lv_at hl 1 rfl) ?_
    replace hf := Option.bind_eq_some_iff.mp hf
    obtain ⟨x8, e9, hf⟩ := hf
    refine hq_zald C I (t := 3) rfl e9 d_MD_retire_13 ?_
    refine lv_if_eq (tgt := 19) C.1.1 C.1.2.1 d_MD_retire_14 (by decide) (fun c10 => ?_) (fun c10 => ?_)
    · rw [if_pos c10] at hf
      refine hq_aload_n C.1.1 C.1.2.1 d_MD_retire_19 rfl (lv_at hl 0 rfl) ?_
      replace hf := Option.bind_eq_some_iff.mp hf
      obtain ⟨x11, e12, hf⟩ := hf
      refine hq_getR C I F_MD_35 e12 d_MD_retire_20 ?_
      refine lv_iload_n C.1.1 C.1.2.1 d_MD_retire_23 rfl (lv_at hl 1 rfl) ?_
      refine lv_iconst (v := 1) C.1.1 C.1.2.1 d_MD_retire_24 (by decide) ?_
      replace hf := Option.bind_eq_some_iff.mp hf
      obtain ⟨h13, e14, hf⟩ := hf
      refine hq_zast C I (t := 3) rfl e14 d_MD_retire_25 (fun H locs I => ?_)
      refine lv_iconst (v := 0) C.1.1 C.1.2.1 d_MD_retire_26 (by decide) ?_
      cases hf
      exact hq_iret C I (by decide) (by decide) d_MD_retire_27
    · rw [if_neg c10] at hf
      refine lv_iconst (v := -1) C.1.1 C.1.2.1 d_MD_retire_17 (by decide) ?_
      cases hf
      exact hq_iret C I (by decide) (by decide) d_MD_retire_18
set_option maxRecDepth 100000 in
set_option maxHeartbeats 4000000 in
theorem k_MD_compare_L50 {p : Program} {l : Launch} {e : Env} {s : State} {m : MethodId} {args : Array Value} {below : List Frame} {meth : Method} {c : Code} {G : hp_G} {B : Nat} (C : hq_C p s m args meth c b_MD_compare 3 ((Option.some Jvm.ClassFile.FieldType.int)) "LayeredLauncherModel" "compare" gt G vwCl aTs) : ∀ (n : Nat) (t0 : Nat) (y1 : Int32) (y2 : Int32) (h : hp_H) (out : Int32 × hp_H), f_MD_compare_L50 n t0 y1 y2 h = some out → ∀ (H : Heap) (locs : List Loc), hp_I G vwCl B s.heap h H locs → ∀ ls : Array Slot, lv_has ls 3 [(0, va_rf (some t0)), (1, .int y1), (2, .int y2)] → W p l e ({ frames := 4, cells := 0, slots := 0, locals := 102 }) s m args below meth c H locs 0 0 (MQ below (hq_Q G vwCl B (some (.int out.1)) out.2) args s 0 0 (fun q => B ≤ q)) (F0 m 50 ls []) := by
  intro n
  induction n with
  | zero => intro t0 y1 y2 h out hf; simp [f_MD_compare_L50] at hf
  | succ n ih =>
    intro t0 y1 y2 h out hf H locs I ls hl
    simp only [f_MD_compare_L50] at hf
    refine lv_iload_n C.1.1 C.1.2.1 d_MD_compare_50 rfl (lv_at hl 2 rfl) ?_
    refine lv_iload_n C.1.1 C.1.2.1 d_MD_compare_51 rfl (lv_at hl 1 rfl) ?_
    refine lv_icmp_ge (tgt := 73) C.1.1 C.1.2.1 d_MD_compare_52 (by decide) (fun c26 => ?_) (fun c26 => ?_)
    · rw [if_pos c26] at hf
      refine hq_aload_n C.1.1 C.1.2.1 d_MD_compare_73 rfl (lv_at hl 0 rfl) ?_
      refine lv_iload_n C.1.1 C.1.2.1 d_MD_compare_74 rfl (lv_at hl 1 rfl) ?_
      refine lv_iconst (v := 1) C.1.1 C.1.2.1 d_MD_compare_75 (by decide) ?_
      refine lv_iadd C.1.1 C.1.2.1 d_MD_compare_76 ?_
      refine hq_aload_n C.1.1 C.1.2.1 d_MD_compare_77 rfl (lv_at hl 0 rfl) ?_
      replace hf := Option.bind_eq_some_iff.mp hf
      obtain ⟨x27, e28, hf⟩ := hf
      refine hq_getI C I F_MD_17 e28 d_MD_compare_78 ?_
      replace hf := Option.bind_eq_some_iff.mp hf
      obtain ⟨b31, e32, hf⟩ := hf
      obtain ⟨e32r, _, e32c⟩ := hp_o_inv e32
      cases e32r
      replace hf := Option.bind_eq_some_iff.mp hf
      obtain ⟨q29, e30, hf⟩ := hf
      refine hq_callW gt_good C I hl.1 (k_MD_secondIs l G B _ t0 (y1 + (1 : Int32)) x27 q29 e30) M_MD_134 e32c rfl ⟨rfl, rfl⟩ ⟨Nat.le_of_ble_eq_true rfl, Nat.le_of_ble_eq_true rfl⟩ rfl (Nat.le_of_ble_eq_true rfl) d_MD_compare_81 ⟨Nat.le_of_ble_eq_true rfl, Nat.le_of_ble_eq_true rfl⟩ (fun H locs I => ?_)
      refine W.widen (k := 0) (n := 0) (by decide) (by decide) ?_
      refine lv_iconst (v := 3) C.1.1 C.1.2.1 d_MD_compare_84 (by decide) ?_
      refine hq_aload_n C.1.1 C.1.2.1 d_MD_compare_85 rfl (lv_at hl 0 rfl) ?_
      replace hf := Option.bind_eq_some_iff.mp hf
      obtain ⟨b35, e36, hf⟩ := hf
      obtain ⟨e36r, _, e36c⟩ := hp_o_inv e36
      cases e36r
      replace hf := Option.bind_eq_some_iff.mp hf
      obtain ⟨q33, e34, hf⟩ := hf
      refine hq_callW gt_good C I hl.1 (k_MD_order l G B _ t0 q33 e34) M_MD_138 e36c rfl ⟨rfl, rfl⟩ ⟨Nat.le_of_ble_eq_true rfl, Nat.le_of_ble_eq_true rfl⟩ rfl (Nat.le_of_ble_eq_true rfl) d_MD_compare_86 ⟨Nat.le_of_ble_eq_true rfl, Nat.le_of_ble_eq_true rfl⟩ (fun H locs I => ?_)
      refine W.widen (k := 0) (n := 0) (by decide) (by decide) ?_
      refine lv_iadd C.1.1 C.1.2.1 d_MD_compare_89 ?_
      cases hf
      exact hq_iret C I (by decide) (by decide) d_MD_compare_90
    · rw [if_neg c26] at hf
      refine hq_aload_n C.1.1 C.1.2.1 d_MD_compare_55 rfl (lv_at hl 0 rfl) ?_
      replace hf := Option.bind_eq_some_iff.mp hf
      obtain ⟨x37, e38, hf⟩ := hf
      refine hq_getR C I F_MD_84 e38 d_MD_compare_56 ?_
      refine lv_iload_n C.1.1 C.1.2.1 d_MD_compare_59 rfl (lv_at hl 2 rfl) ?_
      refine hq_aload_n C.1.1 C.1.2.1 d_MD_compare_60 rfl (lv_at hl 0 rfl) ?_
      replace hf := Option.bind_eq_some_iff.mp hf
      obtain ⟨x39, e40, hf⟩ := hf
      refine hq_getR C I F_MD_20 e40 d_MD_compare_61 ?_
      refine lv_iload_n C.1.1 C.1.2.1 d_MD_compare_64 rfl (lv_at hl 2 rfl) ?_
      replace hf := Option.bind_eq_some_iff.mp hf
      obtain ⟨x41, e42, hf⟩ := hf
      refine hq_iald C I (t := 0) rfl e42 d_MD_compare_65 ?_
      replace hf := Option.bind_eq_some_iff.mp hf
      obtain ⟨h43, e44, hf⟩ := hf
      refine hq_iast C I (t := 0) rfl e44 d_MD_compare_66 (fun H locs I => ?_)
      refine lv_iinc (v := (y2 + 1)) (lv' := [(2, .int (y2 + 1)), (0, va_rf (some t0)), (1, .int y1)]) C.1.1 C.1.2.1 d_MD_compare_67 hl (k := 2) rfl rfl (by decide) (by first | rfl | simp [hq_cat, hq_catI, hq_catL]) (fun ls hl => ?_)
      refine lv_goto (tgt := 50) C.1.1 C.1.2.1 d_MD_compare_70 (by decide) ?_
      refine W.widen (k := 0) (n := 0) (by decide) (by decide) ?_
      exact ih t0 y1 (y2 + 1) h43 _ hf _ _ I ls (lv_sub hl [1, 2, 0] rfl)
set_option maxRecDepth 100000 in
set_option maxHeartbeats 4000000 in
theorem k_MD_compare (l : Launch) (G : hp_G) (B : Nat) (h : hp_H) (t0 : Nat) (out : Int32 × hp_H) (hf : f_MD_compare h t0 = some out) : Met l y_MD_compare (.code y_MD_compare b_MD_compare 3 ((Option.some Jvm.ClassFile.FieldType.int)) :: gt) ({ frames := 4, cells := 0, slots := 0, locals := 102 }) (hq_Pc G vwCl aTs B h [.ref t0]) (hq_Q G vwCl B (some (.int out.1)) out.2) 0 0 (fun q => B ≤ q) := by
  refine hq_enter (nL := 3) (by decide +kernel) (Nat.le_of_ble_eq_true rfl) ?_
  intro p e s m args below meth c C I ls hl
  have hl : lv_has ls 3 [(0, va_rf (some t0))] := hl
  unfold f_MD_compare at hf
  refine hq_aload_n C.1.1 C.1.2.1 d_MD_compare_0 rfl (lv_at hl 0 rfl) ?_
  replace hf := Option.bind_eq_some_iff.mp hf
  obtain ⟨b3, e4, hf⟩ := hf
  obtain ⟨e4r, _, e4c⟩ := hp_o_inv e4
  cases e4r
  replace hf := Option.bind_eq_some_iff.mp hf
  obtain ⟨q1, e2, hf⟩ := hf
  refine hq_callW gt_good C I hl.1 (k_MD_take l G B _ t0 q1 e2) M_MD_158 e4c rfl ⟨rfl, rfl⟩ ⟨Nat.le_of_ble_eq_true rfl, Nat.le_of_ble_eq_true rfl⟩ rfl (Nat.le_of_ble_eq_true rfl) d_MD_compare_1 ⟨Nat.le_of_ble_eq_true rfl, Nat.le_of_ble_eq_true rfl⟩ (fun H locs I => ?_)
  refine W.widen (k := 0) (n := 0) (by decide) (by decide) ?_
  refine hq_aload_n C.1.1 C.1.2.1 d_MD_compare_4 rfl (lv_at hl 0 rfl) ?_
  replace hf := Option.bind_eq_some_iff.mp hf
  obtain ⟨b7, e8, hf⟩ := hf
  obtain ⟨e8r, _, e8c⟩ := hp_o_inv e8
  cases e8r
  replace hf := Option.bind_eq_some_iff.mp hf
  obtain ⟨q5, e6, hf⟩ := hf
  refine hq_callW gt_good C I hl.1 (k_MD_colonAt l G B _ t0 q5 e6) M_MD_146 e8c rfl ⟨rfl, rfl⟩ ⟨Nat.le_of_ble_eq_true rfl, Nat.le_of_ble_eq_true rfl⟩ rfl (Nat.le_of_ble_eq_true rfl) d_MD_compare_5 ⟨Nat.le_of_ble_eq_true rfl, Nat.le_of_ble_eq_true rfl⟩ (fun H locs I => ?_)
  refine W.widen (k := 0) (n := 0) (by decide) (by decide) ?_
  refine lv_istore_n (i := 1) (lv' := [(1, .int q5.1), (0, va_rf (some t0))]) C.1.1 C.1.2.1 d_MD_compare_8 rfl hl (by decide) (by first | rfl | simp [hq_cat, hq_catI, hq_catL]) (fun ls hl => ?_)
  refine lv_iload_n C.1.1 C.1.2.1 d_MD_compare_9 rfl (lv_at hl 0 rfl) ?_
  refine hq_aload_n C.1.1 C.1.2.1 d_MD_compare_10 rfl (lv_at hl 1 rfl) ?_
  replace hf := Option.bind_eq_some_iff.mp hf
  obtain ⟨x9, e10, hf⟩ := hf
  refine hq_getI C I F_MD_17 e10 d_MD_compare_11 ?_
  refine lv_icmp_eq (tgt := 40) C.1.1 C.1.2.1 d_MD_compare_14 (by decide) (fun c11 => ?_) (fun c11 => ?_)
  · rw [if_pos c11] at hf
    refine lv_bipush (v := -3) C.1.1 C.1.2.1 d_MD_compare_40 (by decide) ?_
    cases hf
    exact hq_iret C I (by decide) (by decide) d_MD_compare_42
  · rw [if_neg c11] at hf
    refine hq_aload_n C.1.1 C.1.2.1 d_MD_compare_17 rfl (lv_at hl 1 rfl) ?_
    refine lv_iconst (v := 0) C.1.1 C.1.2.1 d_MD_compare_18 (by decide) ?_
    refine lv_iload_n C.1.1 C.1.2.1 d_MD_compare_19 rfl (lv_at hl 0 rfl) ?_
    replace hf := Option.bind_eq_some_iff.mp hf
    obtain ⟨b14, e15, hf⟩ := hf
    obtain ⟨e15r, _, e15c⟩ := hp_o_inv e15
    cases e15r
    replace hf := Option.bind_eq_some_iff.mp hf
    obtain ⟨q12, e13, hf⟩ := hf
    refine hq_callW gt_good C I hl.1 (k_MD_isVersion l G B _ t0 (0 : Int32) q5.1 q12 e13) M_MD_106 e15c rfl ⟨rfl, rfl⟩ ⟨Nat.le_of_ble_eq_true rfl, Nat.le_of_ble_eq_true rfl⟩ rfl (Nat.le_of_ble_eq_true rfl) d_MD_compare_20 ⟨Nat.le_of_ble_eq_true rfl, Nat.le_of_ble_eq_true rfl⟩ (fun H locs I => ?_)
    refine W.widen (k := 0) (n := 0) (by decide) (by decide) ?_
    refine lv_if_eq (tgt := 40) C.1.1 C.1.2.1 d_MD_compare_23 (by decide) (fun c16 => ?_) (fun c16 => ?_)
    · rw [if_pos c16] at hf
      refine lv_bipush (v := -3) C.1.1 C.1.2.1 d_MD_compare_40 (by decide) ?_
      cases hf
      exact hq_iret C I (by decide) (by decide) d_MD_compare_42
    · rw [if_neg c16] at hf
      refine hq_aload_n C.1.1 C.1.2.1 d_MD_compare_26 rfl (lv_at hl 1 rfl) ?_
      refine lv_iload_n C.1.1 C.1.2.1 d_MD_compare_27 rfl (lv_at hl 0 rfl) ?_
      refine lv_iconst (v := 1) C.1.1 C.1.2.1 d_MD_compare_28 (by decide) ?_
      refine lv_iadd C.1.1 C.1.2.1 d_MD_compare_29 ?_
      refine hq_aload_n C.1.1 C.1.2.1 d_MD_compare_30 rfl (lv_at hl 1 rfl) ?_
      replace hf := Option.bind_eq_some_iff.mp hf
      obtain ⟨x17, e18, hf⟩ := hf
      refine hq_getI C I F_MD_17 e18 d_MD_compare_31 ?_
      replace hf := Option.bind_eq_some_iff.mp hf
      obtain ⟨b21, e22, hf⟩ := hf
      obtain ⟨e22r, _, e22c⟩ := hp_o_inv e22
      cases e22r
      replace hf := Option.bind_eq_some_iff.mp hf
      obtain ⟨q19, e20, hf⟩ := hf
      refine hq_callW gt_good C I hl.1 (k_MD_isVersion l G B _ t0 (q5.1 + (1 : Int32)) x17 q19 e20) M_MD_106 e22c rfl ⟨rfl, rfl⟩ ⟨Nat.le_of_ble_eq_true rfl, Nat.le_of_ble_eq_true rfl⟩ rfl (Nat.le_of_ble_eq_true rfl) d_MD_compare_34 ⟨Nat.le_of_ble_eq_true rfl, Nat.le_of_ble_eq_true rfl⟩ (fun H locs I => ?_)
      refine W.widen (k := 0) (n := 0) (by decide) (by decide) ?_
      refine lv_if_ne (tgt := 43) C.1.1 C.1.2.1 d_MD_compare_37 (by decide) (fun c23 => ?_) (fun c23 => ?_)
      · rw [if_neg c23] at hf
        refine hq_aload_n C.1.1 C.1.2.1 d_MD_compare_43 rfl (lv_at hl 1 rfl) ?_
        refine lv_iload_n C.1.1 C.1.2.1 d_MD_compare_44 rfl (lv_at hl 0 rfl) ?_
        replace hf := Option.bind_eq_some_iff.mp hf
        obtain ⟨h24, e25, hf⟩ := hf
        refine hq_put C I F_MD_87 e25 rfl rfl d_MD_compare_45 (fun H locs I => ?_)
        refine lv_iconst (v := 0) C.1.1 C.1.2.1 d_MD_compare_48 (by decide) ?_
        refine lv_istore_n (i := 2) (lv' := [(2, .int (0 : Int32)), (1, .int q5.1), (0, va_rf (some t0))]) C.1.1 C.1.2.1 d_MD_compare_49 rfl hl (by decide) (by first | rfl | simp [hq_cat, hq_catI, hq_catL]) (fun ls hl => ?_)
        refine W.widen (k := 0) (n := 0) (by decide) (by decide) ?_
        exact k_MD_compare_L50 C FU t0 q5.1 (0 : Int32) h24 _ hf _ _ I ls (lv_sub hl [2, 1, 0] rfl)
      · rw [if_pos c23] at hf
        refine lv_bipush (v := -3) C.1.1 C.1.2.1 d_MD_compare_40 (by decide) ?_
        cases hf
        exact hq_iret C I (by decide) (by decide) d_MD_compare_42
set_option maxRecDepth 100000 in
set_option maxHeartbeats 4000000 in
theorem k_MD_excluded_L38 {p : Program} {l : Launch} {e : Env} {s : State} {m : MethodId} {args : Array Value} {below : List Frame} {meth : Method} {c : Code} {G : hp_G} {B : Nat} (C : hq_C p s m args meth c b_MD_excluded 6 ((Option.some Jvm.ClassFile.FieldType.boolean)) "LayeredLauncherModel" "excluded" gt G vwCl aTs) (k4 : Nat → Int32 → Int32 → Int32 → hp_H → Option (Int32 × hp_H)) (hk4 : ∀ (t0 : Nat) (y1 : Int32) (y2 : Int32) (y3 : Int32) (h : hp_H) (out : Int32 × hp_H), k4 t0 y1 y2 y3 h = some out → ∀ (H : Heap) (locs : List Loc), hp_I G vwCl B s.heap h H locs → ∀ ls : Array Slot, lv_has ls 6 [(0, va_rf (some t0)), (1, .int y1), (2, .int y2), (3, .int y3)] → W p l e ({ frames := 0, cells := 0, slots := 0, locals := 0 }) s m args below meth c H locs 0 0 (MQ below (hq_Q G vwCl B (some (.int out.1)) out.2) args s 0 0 (fun q => B ≤ q)) (F0 m 4 ls [])) : ∀ (n : Nat) (t0 : Nat) (y1 : Int32) (y2 : Int32) (y3 : Int32) (y4 : Int32) (y5 : Int32) (h : hp_H) (out : Int32 × hp_H), f_MD_excluded_L38 k4 n t0 y1 y2 y3 y4 y5 h = some out → ∀ (H : Heap) (locs : List Loc), hp_I G vwCl B s.heap h H locs → ∀ ls : Array Slot, lv_has ls 6 [(0, va_rf (some t0)), (1, .int y1), (2, .int y2), (3, .int y3), (4, .int y4), (5, .int y5)] → W p l e ({ frames := 0, cells := 0, slots := 0, locals := 0 }) s m args below meth c H locs 0 0 (MQ below (hq_Q G vwCl B (some (.int out.1)) out.2) args s 0 0 (fun q => B ≤ q)) (F0 m 38 ls []) := by
  intro n
  induction n with
  | zero => intro t0 y1 y2 y3 y4 y5 h out hf; simp [f_MD_excluded_L38] at hf
  | succ n ih =>
    intro t0 y1 y2 y3 y4 y5 h out hf H locs I ls hl
    simp only [f_MD_excluded_L38] at hf
    refine lv_iload C.1.1 C.1.2.1 d_MD_excluded_38 (lv_at hl 5 rfl) ?_
    refine lv_iload_n C.1.1 C.1.2.1 d_MD_excluded_40 rfl (lv_at hl 2 rfl) ?_
    refine lv_icmp_ge (tgt := 84) C.1.1 C.1.2.1 d_MD_excluded_41 (by decide) (fun c11 => ?_) (fun c11 => ?_)
    · rw [if_pos c11] at hf
      refine lv_iload C.1.1 C.1.2.1 d_MD_excluded_84 (lv_at hl 4 rfl) ?_
      refine lv_if_eq (tgt := 91) C.1.1 C.1.2.1 d_MD_excluded_86 (by decide) (fun c12 => ?_) (fun c12 => ?_)
      · rw [if_pos c12] at hf
        refine lv_iinc (v := (y3 + 1)) (lv' := [(3, .int (y3 + 1)), (0, va_rf (some t0)), (1, .int y1), (2, .int y2), (4, .int y4), (5, .int y5)]) C.1.1 C.1.2.1 d_MD_excluded_91 hl (k := 3) rfl rfl (by decide) (by first | rfl | simp [hq_cat, hq_catI, hq_catL]) (fun ls hl => ?_)
        refine lv_goto (tgt := 4) C.1.1 C.1.2.1 d_MD_excluded_94 (by decide) ?_
        refine W.widen (k := 0) (n := 0) (by decide) (by decide) ?_
        exact hk4 t0 y1 y2 (y3 + 1) h _ hf _ _ I ls (lv_sub hl [1, 2, 3, 0] rfl)
      · rw [if_neg c12] at hf
        refine lv_iconst (v := 1) C.1.1 C.1.2.1 d_MD_excluded_89 (by decide) ?_
        cases hf
        exact hq_zret C I (hp_z_nar (x := 1) (Or.inr rfl)).1 (by decide) (by decide) d_MD_excluded_90
    · rw [if_neg c11] at hf
      refine lv_iload C.1.1 C.1.2.1 d_MD_excluded_44 (lv_at hl 4 rfl) ?_
      refine lv_if_eq (tgt := 84) C.1.1 C.1.2.1 d_MD_excluded_46 (by decide) (fun c13 => ?_) (fun c13 => ?_)
      · rw [if_pos c13] at hf
        refine lv_iload C.1.1 C.1.2.1 d_MD_excluded_84 (lv_at hl 4 rfl) ?_
        refine lv_if_eq (tgt := 91) C.1.1 C.1.2.1 d_MD_excluded_86 (by decide) (fun c14 => ?_) (fun c14 => ?_)
        · rw [if_pos c14] at hf
          refine lv_iinc (v := (y3 + 1)) (lv' := [(3, .int (y3 + 1)), (0, va_rf (some t0)), (1, .int y1), (2, .int y2), (4, .int y4), (5, .int y5)]) C.1.1 C.1.2.1 d_MD_excluded_91 hl (k := 3) rfl rfl (by decide) (by first | rfl | simp [hq_cat, hq_catI, hq_catL]) (fun ls hl => ?_)
          refine lv_goto (tgt := 4) C.1.1 C.1.2.1 d_MD_excluded_94 (by decide) ?_
          refine W.widen (k := 0) (n := 0) (by decide) (by decide) ?_
          exact hk4 t0 y1 y2 (y3 + 1) h _ hf _ _ I ls (lv_sub hl [1, 2, 3, 0] rfl)
        · rw [if_neg c14] at hf
          refine lv_iconst (v := 1) C.1.1 C.1.2.1 d_MD_excluded_89 (by decide) ?_
          cases hf
          exact hq_zret C I (hp_z_nar (x := 1) (Or.inr rfl)).1 (by decide) (by decide) d_MD_excluded_90
      · rw [if_neg c13] at hf
        refine hq_aload_n C.1.1 C.1.2.1 d_MD_excluded_49 rfl (lv_at hl 0 rfl) ?_
        replace hf := Option.bind_eq_some_iff.mp hf
        obtain ⟨x15, e16, hf⟩ := hf
        refine hq_getR C I F_MD_60 e16 d_MD_excluded_50 ?_
        refine lv_iload_n C.1.1 C.1.2.1 d_MD_excluded_53 rfl (lv_at hl 3 rfl) ?_
        refine lv_bipush (v := 8) C.1.1 C.1.2.1 d_MD_excluded_54 (by decide) ?_
        refine lv_imul C.1.1 C.1.2.1 d_MD_excluded_56 ?_
        refine lv_iload C.1.1 C.1.2.1 d_MD_excluded_57 (lv_at hl 5 rfl) ?_
        refine lv_iadd C.1.1 C.1.2.1 d_MD_excluded_59 ?_
        replace hf := Option.bind_eq_some_iff.mp hf
        obtain ⟨x17, e18, hf⟩ := hf
        refine hq_iald C I (t := 0) rfl e18 d_MD_excluded_60 ?_
        refine hq_aload_n C.1.1 C.1.2.1 d_MD_excluded_61 rfl (lv_at hl 0 rfl) ?_
        replace hf := Option.bind_eq_some_iff.mp hf
        obtain ⟨x19, e20, hf⟩ := hf
        refine hq_getR C I F_MD_20 e20 d_MD_excluded_62 ?_
        refine lv_iload C.1.1 C.1.2.1 d_MD_excluded_65 (lv_at hl 5 rfl) ?_
        replace hf := Option.bind_eq_some_iff.mp hf
        obtain ⟨x21, e22, hf⟩ := hf
        refine hq_iald C I (t := 0) rfl e22 d_MD_excluded_67 ?_
        refine lv_icmp_ne (tgt := 75) C.1.1 C.1.2.1 d_MD_excluded_68 (by decide) (fun c23 => ?_) (fun c23 => ?_)
        · rw [if_neg c23] at hf
          refine lv_iconst (v := 0) C.1.1 C.1.2.1 d_MD_excluded_75 (by decide) ?_
          refine lv_istore (i := 4) (lv' := [(4, .int (0 : Int32)), (0, va_rf (some t0)), (1, .int y1), (2, .int y2), (3, .int y3), (5, .int y5)]) C.1.1 C.1.2.1 d_MD_excluded_76 hl (by decide) (by first | rfl | simp [hq_cat, hq_catI, hq_catL]) (fun ls hl => ?_)
          refine lv_iinc (v := (y5 + 1)) (lv' := [(5, .int (y5 + 1)), (4, .int (0 : Int32)), (0, va_rf (some t0)), (1, .int y1), (2, .int y2), (3, .int y3)]) C.1.1 C.1.2.1 d_MD_excluded_78 hl (k := 5) rfl rfl (by decide) (by first | rfl | simp [hq_cat, hq_catI, hq_catL]) (fun ls hl => ?_)
          refine lv_goto (tgt := 38) C.1.1 C.1.2.1 d_MD_excluded_81 (by decide) ?_
          refine W.widen (k := 0) (n := 0) (by decide) (by decide) ?_
          exact ih t0 y1 y2 y3 (0 : Int32) (y5 + 1) h _ hf _ _ I ls (lv_sub hl [2, 3, 4, 5, 1, 0] rfl)
        · rw [if_pos c23] at hf
          refine lv_iconst (v := 1) C.1.1 C.1.2.1 d_MD_excluded_71 (by decide) ?_
          refine lv_goto (tgt := 76) C.1.1 C.1.2.1 d_MD_excluded_72 (by decide) ?_
          refine lv_istore (i := 4) (lv' := [(4, .int (1 : Int32)), (0, va_rf (some t0)), (1, .int y1), (2, .int y2), (3, .int y3), (5, .int y5)]) C.1.1 C.1.2.1 d_MD_excluded_76 hl (by decide) (by first | rfl | simp [hq_cat, hq_catI, hq_catL]) (fun ls hl => ?_)
          refine lv_iinc (v := (y5 + 1)) (lv' := [(5, .int (y5 + 1)), (4, .int (1 : Int32)), (0, va_rf (some t0)), (1, .int y1), (2, .int y2), (3, .int y3)]) C.1.1 C.1.2.1 d_MD_excluded_78 hl (k := 5) rfl rfl (by decide) (by first | rfl | simp [hq_cat, hq_catI, hq_catL]) (fun ls hl => ?_)
          refine lv_goto (tgt := 38) C.1.1 C.1.2.1 d_MD_excluded_81 (by decide) ?_
          refine W.widen (k := 0) (n := 0) (by decide) (by decide) ?_
          exact ih t0 y1 y2 y3 (1 : Int32) (y5 + 1) h _ hf _ _ I ls (lv_sub hl [2, 3, 4, 5, 1, 0] rfl)
set_option maxRecDepth 100000 in
set_option maxHeartbeats 4000000 in
theorem k_MD_excluded_L4 {p : Program} {l : Launch} {e : Env} {s : State} {m : MethodId} {args : Array Value} {below : List Frame} {meth : Method} {c : Code} {G : hp_G} {B : Nat} (C : hq_C p s m args meth c b_MD_excluded 6 ((Option.some Jvm.ClassFile.FieldType.boolean)) "LayeredLauncherModel" "excluded" gt G vwCl aTs) : ∀ (n : Nat) (t0 : Nat) (y1 : Int32) (y2 : Int32) (y3 : Int32) (h : hp_H) (out : Int32 × hp_H), f_MD_excluded_L4 n t0 y1 y2 y3 h = some out → ∀ (H : Heap) (locs : List Loc), hp_I G vwCl B s.heap h H locs → ∀ ls : Array Slot, lv_has ls 6 [(0, va_rf (some t0)), (1, .int y1), (2, .int y2), (3, .int y3)] → W p l e ({ frames := 0, cells := 0, slots := 0, locals := 0 }) s m args below meth c H locs 0 0 (MQ below (hq_Q G vwCl B (some (.int out.1)) out.2) args s 0 0 (fun q => B ≤ q)) (F0 m 4 ls []) := by
  intro n
  induction n with
  | zero => intro t0 y1 y2 y3 h out hf; simp [f_MD_excluded_L4] at hf
  | succ n ih =>
    intro t0 y1 y2 y3 h out hf H locs I ls hl
    simp only [f_MD_excluded_L4] at hf
    refine lv_iload_n C.1.1 C.1.2.1 d_MD_excluded_4 rfl (lv_at hl 3 rfl) ?_
    refine lv_iload_n C.1.1 C.1.2.1 d_MD_excluded_5 rfl (lv_at hl 1 rfl) ?_
    refine lv_iconst (v := 3) C.1.1 C.1.2.1 d_MD_excluded_6 (by decide) ?_
    refine lv_imul C.1.1 C.1.2.1 d_MD_excluded_7 ?_
    refine hq_aload_n C.1.1 C.1.2.1 d_MD_excluded_8 rfl (lv_at hl 0 rfl) ?_
    replace hf := Option.bind_eq_some_iff.mp hf
    obtain ⟨x1, e2, hf⟩ := hf
    refine hq_getR C I F_MD_54 e2 d_MD_excluded_9 ?_
    refine lv_iload_n C.1.1 C.1.2.1 d_MD_excluded_12 rfl (lv_at hl 1 rfl) ?_
    replace hf := Option.bind_eq_some_iff.mp hf
    obtain ⟨x3, e4, hf⟩ := hf
    refine hq_iald C I (t := 0) rfl e4 d_MD_excluded_13 ?_
    refine lv_iadd C.1.1 C.1.2.1 d_MD_excluded_14 ?_
    refine lv_icmp_ge (tgt := 97) C.1.1 C.1.2.1 d_MD_excluded_15 (by decide) (fun c5 => ?_) (fun c5 => ?_)
    · rw [if_pos c5] at hf
      refine lv_iconst (v := 0) C.1.1 C.1.2.1 d_MD_excluded_97 (by decide) ?_
      cases hf
      exact hq_zret C I (hp_z_nar (x := 0) (Or.inl rfl)).1 (by decide) (by decide) d_MD_excluded_98
    · rw [if_neg c5] at hf
      refine hq_aload_n C.1.1 C.1.2.1 d_MD_excluded_18 rfl (lv_at hl 0 rfl) ?_
      replace hf := Option.bind_eq_some_iff.mp hf
      obtain ⟨x6, e7, hf⟩ := hf
      refine hq_getR C I F_MD_57 e7 d_MD_excluded_19 ?_
      refine lv_iload_n C.1.1 C.1.2.1 d_MD_excluded_22 rfl (lv_at hl 3 rfl) ?_
      replace hf := Option.bind_eq_some_iff.mp hf
      obtain ⟨x8, e9, hf⟩ := hf
      refine hq_iald C I (t := 0) rfl e9 d_MD_excluded_23 ?_
      refine lv_iload_n C.1.1 C.1.2.1 d_MD_excluded_24 rfl (lv_at hl 2 rfl) ?_
      refine lv_icmp_ne (tgt := 32) C.1.1 C.1.2.1 d_MD_excluded_25 (by decide) (fun c10 => ?_) (fun c10 => ?_)
      · rw [if_neg c10] at hf
        refine lv_iconst (v := 0) C.1.1 C.1.2.1 d_MD_excluded_32 (by decide) ?_
        refine lv_istore (i := 4) (lv' := [(4, .int (0 : Int32)), (0, va_rf (some t0)), (1, .int y1), (2, .int y2), (3, .int y3)]) C.1.1 C.1.2.1 d_MD_excluded_33 hl (by decide) (by first | rfl | simp [hq_cat, hq_catI, hq_catL]) (fun ls hl => ?_)
        refine lv_iconst (v := 0) C.1.1 C.1.2.1 d_MD_excluded_35 (by decide) ?_
        refine lv_istore (i := 5) (lv' := [(5, .int (0 : Int32)), (4, .int (0 : Int32)), (0, va_rf (some t0)), (1, .int y1), (2, .int y2), (3, .int y3)]) C.1.1 C.1.2.1 d_MD_excluded_36 hl (by decide) (by first | rfl | simp [hq_cat, hq_catI, hq_catL]) (fun ls hl => ?_)
        refine W.widen (k := 0) (n := 0) (by decide) (by decide) ?_
        exact k_MD_excluded_L38 C _ ih FU t0 y1 y2 y3 (0 : Int32) (0 : Int32) h _ hf _ _ I ls (lv_sub hl [2, 3, 4, 5, 1, 0] rfl)
      · rw [if_pos c10] at hf
        refine lv_iconst (v := 1) C.1.1 C.1.2.1 d_MD_excluded_28 (by decide) ?_
        refine lv_goto (tgt := 33) C.1.1 C.1.2.1 d_MD_excluded_29 (by decide) ?_
        refine lv_istore (i := 4) (lv' := [(4, .int (1 : Int32)), (0, va_rf (some t0)), (1, .int y1), (2, .int y2), (3, .int y3)]) C.1.1 C.1.2.1 d_MD_excluded_33 hl (by decide) (by first | rfl | simp [hq_cat, hq_catI, hq_catL]) (fun ls hl => ?_)
        refine lv_iconst (v := 0) C.1.1 C.1.2.1 d_MD_excluded_35 (by decide) ?_
        refine lv_istore (i := 5) (lv' := [(5, .int (0 : Int32)), (4, .int (1 : Int32)), (0, va_rf (some t0)), (1, .int y1), (2, .int y2), (3, .int y3)]) C.1.1 C.1.2.1 d_MD_excluded_36 hl (by decide) (by first | rfl | simp [hq_cat, hq_catI, hq_catL]) (fun ls hl => ?_)
        refine W.widen (k := 0) (n := 0) (by decide) (by decide) ?_
        exact k_MD_excluded_L38 C _ ih FU t0 y1 y2 y3 (1 : Int32) (0 : Int32) h _ hf _ _ I ls (lv_sub hl [2, 3, 4, 5, 1, 0] rfl)
set_option maxRecDepth 100000 in
set_option maxHeartbeats 4000000 in
theorem k_MD_excluded (l : Launch) (G : hp_G) (B : Nat) (h : hp_H) (t0 : Nat) (p1 : Int32) (p2 : Int32) (out : Int32 × hp_H) (hf : f_MD_excluded h t0 p1 p2 = some out) : Met l y_MD_excluded (.code y_MD_excluded b_MD_excluded 6 ((Option.some Jvm.ClassFile.FieldType.boolean)) :: gt) ({ frames := 0, cells := 0, slots := 0, locals := 0 }) (hq_Pc G vwCl aTs B h [.ref t0, .int p1, .int p2]) (hq_Q G vwCl B (some (.int out.1)) out.2) 0 0 (fun q => B ≤ q) := by
  refine hq_enter (nL := 6) (by decide +kernel) (Nat.le_of_ble_eq_true rfl) ?_
  intro p e s m args below meth c C I ls hl
  have hl : lv_has ls 6 [(0, va_rf (some t0)), (1, .int p1), (2, .int p2)] := hl
  unfold f_MD_excluded at hf
  refine lv_iload_n C.1.1 C.1.2.1 d_MD_excluded_0 rfl (lv_at hl 1 rfl) ?_
  refine lv_iconst (v := 3) C.1.1 C.1.2.1 d_MD_excluded_1 (by decide) ?_
  refine lv_imul C.1.1 C.1.2.1 d_MD_excluded_2 ?_
  refine lv_istore_n (i := 3) (lv' := [(3, .int (p1 * (3 : Int32))), (0, va_rf (some t0)), (1, .int p1), (2, .int p2)]) C.1.1 C.1.2.1 d_MD_excluded_3 rfl hl (by decide) (by first | rfl | simp [hq_cat, hq_catI, hq_catL]) (fun ls hl => ?_)
  refine W.widen (k := 0) (n := 0) (by decide) (by decide) ?_
  exact k_MD_excluded_L4 C FU t0 p1 p2 (p1 * (3 : Int32)) h _ hf _ _ I ls (lv_sub hl [1, 2, 3, 0] rfl)
set_option maxRecDepth 100000 in
set_option maxHeartbeats 4000000 in
theorem k_MD_barred_L2 {p : Program} {l : Launch} {e : Env} {s : State} {m : MethodId} {args : Array Value} {below : List Frame} {meth : Method} {c : Code} {G : hp_G} {B : Nat} (C : hq_C p s m args meth c b_MD_barred 4 ((Option.some Jvm.ClassFile.FieldType.boolean)) "LayeredLauncherModel" "barred" gt G vwCl aTs) : ∀ (n : Nat) (t0 : Nat) (y2 : Int32) (y3 : Int32) (h : hp_H) (out : Int32 × hp_H), f_MD_barred_L2 n t0 y2 y3 h = some out → ∀ (H : Heap) (locs : List Loc), hp_I G vwCl B s.heap h H locs → ∀ ls : Array Slot, lv_has ls 4 [(0, va_rf (some t0)), (2, .int y2), (3, .int y3)] → W p l e ({ frames := 1, cells := 0, slots := 0, locals := 25 }) s m args below meth c H locs 0 0 (MQ below (hq_Q G vwCl B (some (.int out.1)) out.2) args s 0 0 (fun q => B ≤ q)) (F0 m 2 ls []) := by
  intro n
  induction n with
  | zero => intro t0 y2 y3 h out hf; simp [f_MD_barred_L2] at hf
  | succ n ih =>
    intro t0 y2 y3 h out hf H locs I ls hl
    simp only [f_MD_barred_L2] at hf
    refine lv_iload_n C.1.1 C.1.2.1 d_MD_barred_2 rfl (lv_at hl 2 rfl) ?_
    refine lv_bipush (v := 20) C.1.1 C.1.2.1 d_MD_barred_3 (by decide) ?_
    refine lv_icmp_le (tgt := 34) C.1.1 C.1.2.1 d_MD_barred_5 (by decide) (fun c1 => ?_) (fun c1 => ?_)
    · rw [if_pos c1] at hf
      refine lv_iconst (v := 0) C.1.1 C.1.2.1 d_MD_barred_34 (by decide) ?_
      cases hf
      exact hq_zret C I (hp_z_nar (x := 0) (Or.inl rfl)).1 (by decide) (by decide) d_MD_barred_35
    · rw [if_neg c1] at hf
      refine hq_aload_n C.1.1 C.1.2.1 d_MD_barred_8 rfl (lv_at hl 0 rfl) ?_
      refine hq_aload_n C.1.1 C.1.2.1 d_MD_barred_9 rfl (lv_at hl 0 rfl) ?_
      replace hf := Option.bind_eq_some_iff.mp hf
      obtain ⟨x2, e3, hf⟩ := hf
      refine hq_getR C I F_MD_81 e3 d_MD_barred_10 ?_
      refine lv_iload_n C.1.1 C.1.2.1 d_MD_barred_13 rfl (lv_at hl 2 rfl) ?_
      replace hf := Option.bind_eq_some_iff.mp hf
      obtain ⟨x4, e5, hf⟩ := hf
      refine hq_iald C I (t := 0) rfl e5 d_MD_barred_14 ?_
      refine lv_iload_n C.1.1 C.1.2.1 d_MD_barred_15 rfl (lv_at hl 1 rfl) ?_
      replace hf := Option.bind_eq_some_iff.mp hf
      obtain ⟨b8, e9, hf⟩ := hf
      obtain ⟨e9r, _, e9c⟩ := hp_o_inv e9
      cases e9r
      replace hf := Option.bind_eq_some_iff.mp hf
      obtain ⟨q6, e7, hf⟩ := hf
      refine hq_callW gt_good C I hl.1 (k_MD_excluded l G B _ t0 x4 y2 q6 e7) M_MD_170 e9c rfl ⟨rfl, rfl⟩ ⟨Nat.le_of_ble_eq_true rfl, Nat.le_of_ble_eq_true rfl⟩ rfl (Nat.le_of_ble_eq_true rfl) d_MD_barred_16 ⟨Nat.le_of_ble_eq_true rfl, Nat.le_of_ble_eq_true rfl⟩ (fun H locs I => ?_)
      refine W.widen (k := 0) (n := 0) (by decide) (by decide) ?_
      refine lv_if_eq (tgt := 24) C.1.1 C.1.2.1 d_MD_barred_19 (by decide) (fun c10 => ?_) (fun c10 => ?_)
      · rw [if_pos c10] at hf
        refine hq_aload_n C.1.1 C.1.2.1 d_MD_barred_24 rfl (lv_at hl 0 rfl) ?_
        replace hf := Option.bind_eq_some_iff.mp hf
        obtain ⟨x11, e12, hf⟩ := hf
        refine hq_getR C I F_MD_78 e12 d_MD_barred_25 ?_
        refine lv_iload_n C.1.1 C.1.2.1 d_MD_barred_28 rfl (lv_at hl 2 rfl) ?_
        replace hf := Option.bind_eq_some_iff.mp hf
        obtain ⟨x13, e14, hf⟩ := hf
        refine hq_iald C I (t := 0) rfl e14 d_MD_barred_29 ?_
        refine lv_istore_n (i := 3) (lv' := [(3, .int x13), (0, va_rf (some t0)), (2, .int y2)]) C.1.1 C.1.2.1 d_MD_barred_30 rfl hl (by decide) (by first | rfl | simp [hq_cat, hq_catI, hq_catL]) (fun ls hl => ?_)
        refine lv_goto (tgt := 2) C.1.1 C.1.2.1 d_MD_barred_31 (by decide) ?_
        refine W.widen (k := 0) (n := 0) (by decide) (by decide) ?_
        exact ih t0 y2 x13 q6.2 _ hf _ _ I ls (lv_sub hl [1, 2, 0] rfl)
      · rw [if_neg c10] at hf
        refine lv_iconst (v := 1) C.1.1 C.1.2.1 d_MD_barred_22 (by decide) ?_
        cases hf
        exact hq_zret C I (hp_z_nar (x := 1) (Or.inr rfl)).1 (by decide) (by decide) d_MD_barred_23
set_option maxRecDepth 100000 in
set_option maxHeartbeats 4000000 in
theorem k_MD_barred (l : Launch) (G : hp_G) (B : Nat) (h : hp_H) (t0 : Nat) (p1 : Int32) (p2 : Int32) (out : Int32 × hp_H) (hf : f_MD_barred h t0 p1 p2 = some out) : Met l y_MD_barred (.code y_MD_barred b_MD_barred 4 ((Option.some Jvm.ClassFile.FieldType.boolean)) :: gt) ({ frames := 1, cells := 0, slots := 0, locals := 25 }) (hq_Pc G vwCl aTs B h [.ref t0, .int p1, .int p2]) (hq_Q G vwCl B (some (.int out.1)) out.2) 0 0 (fun q => B ≤ q) := by
  refine hq_enter (nL := 4) (by decide +kernel) (Nat.le_of_ble_eq_true rfl) ?_
  intro p e s m args below meth c C I ls hl
  have hl : lv_has ls 4 [(0, va_rf (some t0)), (1, .int p1), (2, .int p2)] := hl
  unfold f_MD_barred at hf
  refine lv_iload_n C.1.1 C.1.2.1 d_MD_barred_0 rfl (lv_at hl 1 rfl) ?_
  refine lv_istore_n (i := 3) (lv' := [(3, .int p1), (0, va_rf (some t0)), (1, .int p1), (2, .int p2)]) C.1.1 C.1.2.1 d_MD_barred_1 rfl hl (by decide) (by first | rfl | simp [hq_cat, hq_catI, hq_catL]) (fun ls hl => ?_)
  refine W.widen (k := 0) (n := 0) (by decide) (by decide) ?_
  exact k_MD_barred_L2 C FU t0 p2 p1 h _ hf _ _ I ls (lv_sub hl [1, 3, 0] rfl)
set_option maxRecDepth 100000 in
set_option maxHeartbeats 4000000 in
theorem k_MD_add (l : Launch) (G : hp_G) (B : Nat) (h : hp_H) (t0 : Nat) (p1 : Int32) (p2 : Int32) (p3 : Int32) (p4 : Int32) (out : hp_H) (hf : f_MD_add h t0 p1 p2 p3 p4 = some out) : Met l y_MD_add (.code y_MD_add b_MD_add 6 ((Option.none : Option Jvm.ClassFile.FieldType)) :: gt) ({ frames := 0, cells := 0, slots := 0, locals := 0 }) (hq_Pc G vwCl aTs B h [.ref t0, .int p1, .int p2, .int p3, .int p4]) (hq_Q G vwCl B none out) 0 0 (fun q => B ≤ q) := by
  refine hq_enter (nL := 6) (by decide +kernel) (Nat.le_of_ble_eq_true rfl) ?_
  intro p e s m args below meth c C I ls hl
  have hl : lv_has ls 6 [(0, va_rf (some t0)), (1, .int p1), (2, .int p2), (3, .int p3), (4, .int p4)] := hl
  unfold f_MD_add at hf
  refine lv_bipush (v := 20) C.1.1 C.1.2.1 d_MD_add_0 (by decide) ?_
  refine hq_aload_n C.1.1 C.1.2.1 d_MD_add_2 rfl (lv_at hl 0 rfl) ?_
  replace hf := Option.bind_eq_some_iff.mp hf
  obtain ⟨x1, e2, hf⟩ := hf
  refine hq_getI C I F_MD_69 e2 d_MD_add_3 ?_
  refine lv_iadd C.1.1 C.1.2.1 d_MD_add_6 ?_
  refine lv_istore (i := 5) (lv' := [(5, .int ((20 : Int32) + x1)), (0, va_rf (some t0)), (1, .int p1), (2, .int p2), (3, .int p3), (4, .int p4)]) C.1.1 C.1.2.1 d_MD_add_7 hl (by decide) (by first | rfl | simp [hq_cat, hq_catI, hq_catL]) (fun ls hl => ?_)
  refine hq_aload_n C.1.1 C.1.2.1 d_MD_add_9 rfl (lv_at hl 1 rfl) ?_
  replace hf := Option.bind_eq_some_iff.mp hf
  obtain ⟨x3, e4, hf⟩ := hf
  refine hq_getR C I F_MD_72 e4 d_MD_add_10 ?_
  refine lv_iload C.1.1 C.1.2.1 d_MD_add_13 (lv_at hl 0 rfl) ?_
  refine lv_iload_n C.1.1 C.1.2.1 d_MD_add_15 rfl (lv_at hl 2 rfl) ?_
  replace hf := Option.bind_eq_some_iff.mp hf
  obtain ⟨h5, e6, hf⟩ := hf
  refine hq_iast C I (t := 0) rfl e6 d_MD_add_16 (fun H locs I => ?_)
  refine hq_aload_n C.1.1 C.1.2.1 d_MD_add_17 rfl (lv_at hl 1 rfl) ?_
  replace hf := Option.bind_eq_some_iff.mp hf
  obtain ⟨x7, e8, hf⟩ := hf
  refine hq_getR C I F_MD_75 e8 d_MD_add_18 ?_
  refine lv_iload C.1.1 C.1.2.1 d_MD_add_21 (lv_at hl 0 rfl) ?_
  refine lv_iload_n C.1.1 C.1.2.1 d_MD_add_23 rfl (lv_at hl 3 rfl) ?_
  replace hf := Option.bind_eq_some_iff.mp hf
  obtain ⟨h9, e10, hf⟩ := hf
  refine hq_iast C I (t := 0) rfl e10 d_MD_add_24 (fun H locs I => ?_)
  refine hq_aload_n C.1.1 C.1.2.1 d_MD_add_25 rfl (lv_at hl 1 rfl) ?_
  replace hf := Option.bind_eq_some_iff.mp hf
  obtain ⟨x11, e12, hf⟩ := hf
  refine hq_getR C I F_MD_78 e12 d_MD_add_26 ?_
  refine lv_iload C.1.1 C.1.2.1 d_MD_add_29 (lv_at hl 0 rfl) ?_
  refine lv_iload_n C.1.1 C.1.2.1 d_MD_add_31 rfl (lv_at hl 4 rfl) ?_
  replace hf := Option.bind_eq_some_iff.mp hf
  obtain ⟨h13, e14, hf⟩ := hf
  refine hq_iast C I (t := 0) rfl e14 d_MD_add_32 (fun H locs I => ?_)
  refine hq_aload_n C.1.1 C.1.2.1 d_MD_add_33 rfl (lv_at hl 1 rfl) ?_
  replace hf := Option.bind_eq_some_iff.mp hf
  obtain ⟨x15, e16, hf⟩ := hf
  refine hq_getR C I F_MD_81 e16 d_MD_add_34 ?_
  refine lv_iload C.1.1 C.1.2.1 d_MD_add_37 (lv_at hl 0 rfl) ?_
  refine lv_iload C.1.1 C.1.2.1 d_MD_add_39 (lv_at hl 5 rfl) ?_
  replace hf := Option.bind_eq_some_iff.mp hf
  obtain ⟨h17, e18, hf⟩ := hf
  refine hq_iast C I (t := 0) rfl e18 d_MD_add_41 (fun H locs I => ?_)
  refine hq_aload_n C.1.1 C.1.2.1 d_MD_add_42 rfl (lv_at hl 1 rfl) ?_
  refine lv_dup C.1.1 C.1.2.1 d_MD_add_43 (hq_cat _) ?_
  replace hf := Option.bind_eq_some_iff.mp hf
  obtain ⟨x19, e20, hf⟩ := hf
  refine hq_getI C I F_MD_69 e20 d_MD_add_44 ?_
  refine lv_iconst (v := 1) C.1.1 C.1.2.1 d_MD_add_47 (by decide) ?_
  refine lv_iadd C.1.1 C.1.2.1 d_MD_add_48 ?_
  replace hf := Option.bind_eq_some_iff.mp hf
  obtain ⟨h21, e22, hf⟩ := hf
  refine hq_put C I F_MD_69 e22 rfl rfl d_MD_add_49 (fun H locs I => ?_)
  cases hf
  exact hq_vret C I (by decide) (by decide) d_MD_add_52
