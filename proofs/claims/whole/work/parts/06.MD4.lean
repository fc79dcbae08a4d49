set_option maxRecDepth 100000 in
set_option maxHeartbeats 4000000 in
theorem k_MD_need_L43 {p : Program} {l : Launch} {e : Env} {s : State} {m : MethodId} {args : Array Value} {below : List Frame} {meth : Method} {c : Code} {G : hp_G} {B : Nat} (C : hq_C p s m args meth c b_MD_need 5 ((Option.some Jvm.ClassFile.FieldType.int)) "LayeredLauncherModel" "need" gt G vwCl aTs) : ∀ (n : Nat) (t0 : Nat) (y1 : Int32) (y2 : Int32) (y3 : Int32) (y4 : Int32) (h : hp_H) (out : Int32 × hp_H), f_MD_need_L43 n t0 y1 y2 y3 y4 h = some out → ∀ (H : Heap) (locs : List Loc), hp_I G vwCl B s.heap h H locs → ∀ ls : Array Slot, lv_has ls 5 [(0, va_rf (some t0)), (1, .int y1), (2, .int y2), (3, .int y3), (4, .int y4)] → W p l e ({ frames := 7, cells := 0, slots := 0, locals := 172 }) s m args below meth c H locs 0 0 (MQ below (hq_Q G vwCl B (some (.int out.1)) out.2) args s 0 0 (fun q => B ≤ q)) (F0 m 43 ls []) := by
  intro n
  induction n with
  | zero => intro t0 y1 y2 y3 y4 h out hf; simp [f_MD_need_L43] at hf
  | succ n ih =>
    intro t0 y1 y2 y3 y4 h out hf H locs I ls hl
    simp only [f_MD_need_L43] at hf
    refine lv_iload C.1.1 C.1.2.1 d_MD_need_43 (lv_at hl 4 rfl) ?_
    refine lv_bipush (v := 20) C.1.1 C.1.2.1 d_MD_need_45 (by decide) ?_
    refine hq_aload_n C.1.1 C.1.2.1 d_MD_need_47 rfl (lv_at hl 0 rfl) ?_
    replace hf := Option.bind_eq_some_iff.mp hf
    obtain ⟨x24, e25, hf⟩ := hf
    refine hq_getI C I F_MD_69 e25 d_MD_need_48 ?_
    refine lv_iadd C.1.1 C.1.2.1 d_MD_need_51 ?_
    refine lv_icmp_ge (tgt := 114) C.1.1 C.1.2.1 d_MD_need_52 (by decide) (fun c26 => ?_) (fun c26 => ?_)
    · rw [if_pos c26] at hf
      refine hq_aload_n C.1.1 C.1.2.1 d_MD_need_114 rfl (lv_at hl 0 rfl) ?_
      replace hf := Option.bind_eq_some_iff.mp hf
      obtain ⟨b29, e30, hf⟩ := hf
      obtain ⟨e30r, _, e30c⟩ := hp_o_inv e30
      cases e30r
      replace hf := Option.bind_eq_some_iff.mp hf
      obtain ⟨q27, e28, hf⟩ := hf
      refine hq_callW gt_good C I hl.1 (k_MD_pick l G B _ t0 q27 e28) M_MD_179 e30c rfl ⟨rfl, rfl⟩ ⟨Nat.le_of_ble_eq_true rfl, Nat.le_of_ble_eq_true rfl⟩ rfl (Nat.le_of_ble_eq_true rfl) d_MD_need_115 ⟨Nat.le_of_ble_eq_true rfl, Nat.le_of_ble_eq_true rfl⟩ (fun H locs I => ?_)
      refine W.widen (k := 0) (n := 0) (by decide) (by decide) ?_
      refine lv_istore (i := 4) (lv' := [(4, .int q27.1), (0, va_rf (some t0)), (1, .int y1), (2, .int y2), (3, .int y3)]) C.1.1 C.1.2.1 d_MD_need_118 hl (by decide) (by first | rfl | simp [hq_cat, hq_catI, hq_catL]) (fun ls hl => ?_)
      refine lv_iload C.1.1 C.1.2.1 d_MD_need_120 (lv_at hl 0 rfl) ?_
      refine lv_if_ge (tgt := 128) C.1.1 C.1.2.1 d_MD_need_122 (by decide) (fun c31 => ?_) (fun c31 => ?_)
      · rw [if_pos c31] at hf
        refine hq_aload_n C.1.1 C.1.2.1 d_MD_need_128 rfl (lv_at hl 1 rfl) ?_
        refine lv_iload C.1.1 C.1.2.1 d_MD_need_129 (lv_at hl 0 rfl) ?_
        refine hq_aload_n C.1.1 C.1.2.1 d_MD_need_131 rfl (lv_at hl 1 rfl) ?_
        replace hf := Option.bind_eq_some_iff.mp hf
        obtain ⟨x32, e33, hf⟩ := hf
        refine hq_getR C I F_MD_75 e33 d_MD_need_132 ?_
        refine lv_iload_n C.1.1 C.1.2.1 d_MD_need_135 rfl (lv_at hl 2 rfl) ?_
        replace hf := Option.bind_eq_some_iff.mp hf
        obtain ⟨x34, e35, hf⟩ := hf
        refine hq_iald C I (t := 0) rfl e35 d_MD_need_136 ?_
        refine lv_iconst (v := 1) C.1.1 C.1.2.1 d_MD_need_137 (by decide) ?_
        refine lv_iadd C.1.1 C.1.2.1 d_MD_need_138 ?_
        refine lv_iload_n C.1.1 C.1.2.1 d_MD_need_139 rfl (lv_at hl 2 rfl) ?_
        refine lv_iload_n C.1.1 C.1.2.1 d_MD_need_140 rfl (lv_at hl 3 rfl) ?_
        replace hf := Option.bind_eq_some_iff.mp hf
        obtain ⟨b38, e39, hf⟩ := hf
        obtain ⟨e39r, _, e39c⟩ := hp_o_inv e39
        cases e39r
        replace hf := Option.bind_eq_some_iff.mp hf
        obtain ⟨q36, e37, hf⟩ := hf
        refine hq_callW gt_good C I hl.1 (k_MD_add l G B _ t0 q27.1 (x34 + (1 : Int32)) y1 y2 q36 e37) M_MD_182 e39c rfl ⟨rfl, rfl⟩ ⟨Nat.le_of_ble_eq_true rfl, Nat.le_of_ble_eq_true rfl⟩ rfl (Nat.le_of_ble_eq_true rfl) d_MD_need_141 ⟨Nat.le_of_ble_eq_true rfl, Nat.le_of_ble_eq_true rfl⟩ (fun H locs I => ?_)
        refine W.widen (k := 0) (n := 0) (by decide) (by decide) ?_
        refine lv_iconst (v := 0) C.1.1 C.1.2.1 d_MD_need_144 (by decide) ?_
        cases hf
        exact hq_iret C I (by decide) (by decide) d_MD_need_145
      · rw [if_neg c31] at hf
        refine lv_bipush (v := -4) C.1.1 C.1.2.1 d_MD_need_125 (by decide) ?_
        cases hf
        exact hq_iret C I (by decide) (by decide) d_MD_need_127
    · rw [if_neg c26] at hf
      refine hq_aload_n C.1.1 C.1.2.1 d_MD_need_55 rfl (lv_at hl 0 rfl) ?_
      refine hq_aload_n C.1.1 C.1.2.1 d_MD_need_56 rfl (lv_at hl 0 rfl) ?_
      replace hf := Option.bind_eq_some_iff.mp hf
      obtain ⟨x40, e41, hf⟩ := hf
      refine hq_getR C I F_MD_72 e41 d_MD_need_57 ?_
      refine lv_iload C.1.1 C.1.2.1 d_MD_need_60 (lv_at hl 4 rfl) ?_
      replace hf := Option.bind_eq_some_iff.mp hf
      obtain ⟨x42, e43, hf⟩ := hf
      refine hq_iald C I (t := 0) rfl e43 d_MD_need_62 ?_
      refine lv_iload_n C.1.1 C.1.2.1 d_MD_need_63 rfl (lv_at hl 3 rfl) ?_
      replace hf := Option.bind_eq_some_iff.mp hf
      obtain ⟨b46, e47, hf⟩ := hf
      obtain ⟨e47r, _, e47c⟩ := hp_o_inv e47
      cases e47r
      replace hf := Option.bind_eq_some_iff.mp hf
      obtain ⟨q44, e45, hf⟩ := hf
      refine hq_callW gt_good C I hl.1 (k_MD_hasName l G B _ t0 x42 y3 q44 e45) M_MD_149 e47c rfl ⟨rfl, rfl⟩ ⟨Nat.le_of_ble_eq_true rfl, Nat.le_of_ble_eq_true rfl⟩ rfl (Nat.le_of_ble_eq_true rfl) d_MD_need_64 ⟨Nat.le_of_ble_eq_true rfl, Nat.le_of_ble_eq_true rfl⟩ (fun H locs I => ?_)
      refine W.widen (k := 0) (n := 0) (by decide) (by decide) ?_
      refine lv_if_eq (tgt := 108) C.1.1 C.1.2.1 d_MD_need_67 (by decide) (fun c48 => ?_) (fun c48 => ?_)
      · rw [if_pos c48] at hf
        refine lv_iinc (v := (y4 + 1)) (lv' := [(4, .int (y4 + 1)), (0, va_rf (some t0)), (1, .int y1), (2, .int y2), (3, .int y3)]) C.1.1 C.1.2.1 d_MD_need_108 hl (k := 4) rfl rfl (by decide) (by first | rfl | simp [hq_cat, hq_catI, hq_catL]) (fun ls hl => ?_)
        refine lv_goto (tgt := 43) C.1.1 C.1.2.1 d_MD_need_111 (by decide) ?_
        refine W.widen (k := 0) (n := 0) (by decide) (by decide) ?_
        exact ih t0 y1 y2 y3 (y4 + 1) q44.2 _ hf _ _ I ls (lv_sub hl [1, 2, 3, 4, 0] rfl)
      · rw [if_neg c48] at hf
        refine hq_aload_n C.1.1 C.1.2.1 d_MD_need_70 rfl (lv_at hl 0 rfl) ?_
        refine lv_iload_n C.1.1 C.1.2.1 d_MD_need_71 rfl (lv_at hl 3 rfl) ?_
        refine lv_iconst (v := 1) C.1.1 C.1.2.1 d_MD_need_72 (by decide) ?_
        refine lv_iadd C.1.1 C.1.2.1 d_MD_need_73 ?_
        refine hq_aload_n C.1.1 C.1.2.1 d_MD_need_74 rfl (lv_at hl 0 rfl) ?_
        replace hf := Option.bind_eq_some_iff.mp hf
        obtain ⟨x49, e50, hf⟩ := hf
        refine hq_getI C I F_MD_17 e50 d_MD_need_75 ?_
        replace hf := Option.bind_eq_some_iff.mp hf
        obtain ⟨b53, e54, hf⟩ := hf
        obtain ⟨e54r, _, e54c⟩ := hp_o_inv e54
        cases e54r
        replace hf := Option.bind_eq_some_iff.mp hf
        obtain ⟨q51, e52, hf⟩ := hf
        refine hq_callW gt_good C I hl.1 (k_MD_isVersion l G B _ t0 (y3 + (1 : Int32)) x49 q51 e52) M_MD_106 e54c rfl ⟨rfl, rfl⟩ ⟨Nat.le_of_ble_eq_true rfl, Nat.le_of_ble_eq_true rfl⟩ rfl (Nat.le_of_ble_eq_true rfl) d_MD_need_78 ⟨Nat.le_of_ble_eq_true rfl, Nat.le_of_ble_eq_true rfl⟩ (fun H locs I => ?_)
        refine W.widen (k := 0) (n := 0) (by decide) (by decide) ?_
        refine lv_if_ne (tgt := 101) C.1.1 C.1.2.1 d_MD_need_81 (by decide) (fun c55 => ?_) (fun c55 => ?_)
        · rw [if_neg c55] at hf
          refine lv_iconst (v := 0) C.1.1 C.1.2.1 d_MD_need_101 (by decide) ?_
          refine lv_goto (tgt := 107) C.1.1 C.1.2.1 d_MD_need_102 (by decide) ?_
          cases hf
          exact hq_iret C I (by decide) (by decide) d_MD_need_107
        · rw [if_pos c55] at hf
          refine hq_aload_n C.1.1 C.1.2.1 d_MD_need_84 rfl (lv_at hl 0 rfl) ?_
          refine hq_aload_n C.1.1 C.1.2.1 d_MD_need_85 rfl (lv_at hl 0 rfl) ?_
          replace hf := Option.bind_eq_some_iff.mp hf
          obtain ⟨x56, e57, hf⟩ := hf
          refine hq_getR C I F_MD_72 e57 d_MD_need_86 ?_
          refine lv_iload C.1.1 C.1.2.1 d_MD_need_89 (lv_at hl 4 rfl) ?_
          replace hf := Option.bind_eq_some_iff.mp hf
          obtain ⟨x58, e59, hf⟩ := hf
          refine hq_iald C I (t := 0) rfl e59 d_MD_need_91 ?_
          refine lv_iload_n C.1.1 C.1.2.1 d_MD_need_92 rfl (lv_at hl 3 rfl) ?_
          refine lv_iconst (v := 1) C.1.1 C.1.2.1 d_MD_need_93 (by decide) ?_
          refine lv_iadd C.1.1 C.1.2.1 d_MD_need_94 ?_
          replace hf := Option.bind_eq_some_iff.mp hf
          obtain ⟨b62, e63, hf⟩ := hf
          obtain ⟨e63r, _, e63c⟩ := hp_o_inv e63
          cases e63r
          replace hf := Option.bind_eq_some_iff.mp hf
          obtain ⟨q60, e61, hf⟩ := hf
          refine hq_callW gt_good C I hl.1 (k_MD_holds l G B _ t0 x58 (y3 + (1 : Int32)) q60 e61) M_MD_152 e63c rfl ⟨rfl, rfl⟩ ⟨Nat.le_of_ble_eq_true rfl, Nat.le_of_ble_eq_true rfl⟩ rfl (Nat.le_of_ble_eq_true rfl) d_MD_need_95 ⟨Nat.le_of_ble_eq_true rfl, Nat.le_of_ble_eq_true rfl⟩ (fun H locs I => ?_)
          refine W.widen (k := 0) (n := 0) (by decide) (by decide) ?_
          refine lv_if_eq (tgt := 105) C.1.1 C.1.2.1 d_MD_need_98 (by decide) (fun c64 => ?_) (fun c64 => ?_)
          · rw [if_pos c64] at hf
            refine lv_bipush (v := -5) C.1.1 C.1.2.1 d_MD_need_105 (by decide) ?_
            cases hf
            exact hq_iret C I (by decide) (by decide) d_MD_need_107
          · rw [if_neg c64] at hf
            refine lv_iconst (v := 0) C.1.1 C.1.2.1 d_MD_need_101 (by decide) ?_
            refine lv_goto (tgt := 107) C.1.1 C.1.2.1 d_MD_need_102 (by decide) ?_
            cases hf
            exact hq_iret C I (by decide) (by decide) d_MD_need_107
set_option maxRecDepth 100000 in
set_option maxHeartbeats 4000000 in
theorem k_MD_need (l : Launch) (G : hp_G) (B : Nat) (h : hp_H) (t0 : Nat) (p1 : Int32) (p2 : Int32) (out : Int32 × hp_H) (hf : f_MD_need h t0 p1 p2 = some out) : Met l y_MD_need (.code y_MD_need b_MD_need 5 ((Option.some Jvm.ClassFile.FieldType.int)) :: gt) ({ frames := 7, cells := 0, slots := 0, locals := 172 }) (hq_Pc G vwCl aTs B h [.ref t0, .int p1, .int p2]) (hq_Q G vwCl B (some (.int out.1)) out.2) 0 0 (fun q => B ≤ q) := by
  refine hq_enter (nL := 5) (by decide +kernel) (Nat.le_of_ble_eq_true rfl) ?_
  intro p e s m args below meth c C I ls hl
  have hl : lv_has ls 5 [(0, va_rf (some t0)), (1, .int p1), (2, .int p2)] := hl
  unfold f_MD_need at hf
  refine hq_aload_n C.1.1 C.1.2.1 d_MD_need_0 rfl (lv_at hl 0 rfl) ?_
  refine lv_iload_n C.1.1 C.1.2.1 d_MD_need_1 rfl (lv_at hl 2 rfl) ?_
  replace hf := Option.bind_eq_some_iff.mp hf
  obtain ⟨b3, e4, hf⟩ := hf
  obtain ⟨e4r, _, e4c⟩ := hp_o_inv e4
  cases e4r
  replace hf := Option.bind_eq_some_iff.mp hf
  obtain ⟨q1, e2, hf⟩ := hf
  refine hq_callW gt_good C I hl.1 (k_MD_takeDependency l G B _ t0 p2 q1 e2) M_MD_173 e4c rfl ⟨rfl, rfl⟩ ⟨Nat.le_of_ble_eq_true rfl, Nat.le_of_ble_eq_true rfl⟩ rfl (Nat.le_of_ble_eq_true rfl) d_MD_need_2 ⟨Nat.le_of_ble_eq_true rfl, Nat.le_of_ble_eq_true rfl⟩ (fun H locs I => ?_)
  refine W.widen (k := 0) (n := 0) (by decide) (by decide) ?_
  refine hq_aload_n C.1.1 C.1.2.1 d_MD_need_5 rfl (lv_at hl 0 rfl) ?_
  replace hf := Option.bind_eq_some_iff.mp hf
  obtain ⟨b7, e8, hf⟩ := hf
  obtain ⟨e8r, _, e8c⟩ := hp_o_inv e8
  cases e8r
  replace hf := Option.bind_eq_some_iff.mp hf
  obtain ⟨q5, e6, hf⟩ := hf
  refine hq_callW gt_good C I hl.1 (k_MD_colonAt l G B _ t0 q5 e6) M_MD_146 e8c rfl ⟨rfl, rfl⟩ ⟨Nat.le_of_ble_eq_true rfl, Nat.le_of_ble_eq_true rfl⟩ rfl (Nat.le_of_ble_eq_true rfl) d_MD_need_6 ⟨Nat.le_of_ble_eq_true rfl, Nat.le_of_ble_eq_true rfl⟩ (fun H locs I => ?_)
  refine W.widen (k := 0) (n := 0) (by decide) (by decide) ?_
  refine lv_istore_n (i := 3) (lv' := [(3, .int q5.1), (0, va_rf (some t0)), (1, .int p1), (2, .int p2)]) C.1.1 C.1.2.1 d_MD_need_9 rfl hl (by decide) (by first | rfl | simp [hq_cat, hq_catI, hq_catL]) (fun ls hl => ?_)
  refine hq_aload_n C.1.1 C.1.2.1 d_MD_need_10 rfl (lv_at hl 1 rfl) ?_
  refine lv_iload_n C.1.1 C.1.2.1 d_MD_need_11 rfl (lv_at hl 2 rfl) ?_
  refine lv_iload_n C.1.1 C.1.2.1 d_MD_need_12 rfl (lv_at hl 0 rfl) ?_
  replace hf := Option.bind_eq_some_iff.mp hf
  obtain ⟨b11, e12, hf⟩ := hf
  obtain ⟨e12r, _, e12c⟩ := hp_o_inv e12
  cases e12r
  replace hf := Option.bind_eq_some_iff.mp hf
  obtain ⟨q9, e10, hf⟩ := hf
  refine hq_callW gt_good C I hl.1 (k_MD_barred l G B _ t0 p1 q5.1 q9 e10) M_MD_176 e12c rfl ⟨rfl, rfl⟩ ⟨Nat.le_of_ble_eq_true rfl, Nat.le_of_ble_eq_true rfl⟩ rfl (Nat.le_of_ble_eq_true rfl) d_MD_need_13 ⟨Nat.le_of_ble_eq_true rfl, Nat.le_of_ble_eq_true rfl⟩ (fun H locs I => ?_)
  refine W.widen (k := 0) (n := 0) (by decide) (by decide) ?_
  refine lv_if_ne (tgt := 37) C.1.1 C.1.2.1 d_MD_need_16 (by decide) (fun c13 => ?_) (fun c13 => ?_)
  · rw [if_neg c13] at hf
    refine lv_iconst (v := 0) C.1.1 C.1.2.1 d_MD_need_37 (by decide) ?_
    cases hf
    exact hq_iret C I (by decide) (by decide) d_MD_need_38
  · rw [if_pos c13] at hf
    refine hq_aload_n C.1.1 C.1.2.1 d_MD_need_19 rfl (lv_at hl 1 rfl) ?_
    replace hf := Option.bind_eq_some_iff.mp hf
    obtain ⟨x14, e15, hf⟩ := hf
    refine hq_getR C I F_MD_45 e15 d_MD_need_20 ?_
    refine lv_iload_n C.1.1 C.1.2.1 d_MD_need_23 rfl (lv_at hl 3 rfl) ?_
    replace hf := Option.bind_eq_some_iff.mp hf
    obtain ⟨x16, e17, hf⟩ := hf
    refine hq_zald C I (t := 3) rfl e17 d_MD_need_24 ?_
    refine lv_if_eq (tgt := 39) C.1.1 C.1.2.1 d_MD_need_25 (by decide) (fun c18 => ?_) (fun c18 => ?_)
    · rw [if_pos c18] at hf
      refine lv_bipush (v := 20) C.1.1 C.1.2.1 d_MD_need_39 (by decide) ?_
      refine lv_istore (i := 4) (lv' := [(4, .int (20 : Int32)), (3, .int q5.1), (0, va_rf (some t0)), (1, .int p1), (2, .int p2)]) C.1.1 C.1.2.1 d_MD_need_41 hl (by decide) (by first | rfl | simp [hq_cat, hq_catI, hq_catL]) (fun ls hl => ?_)
      refine W.widen (k := 0) (n := 0) (by decide) (by decide) ?_
      exact k_MD_need_L43 C FU t0 p1 p2 q5.1 (20 : Int32) q9.2 _ hf _ _ I ls (lv_sub hl [2, 3, 4, 1, 0] rfl)
    · rw [if_neg c18] at hf
      refine hq_aload_n C.1.1 C.1.2.1 d_MD_need_28 rfl (lv_at hl 1 rfl) ?_
      replace hf := Option.bind_eq_some_iff.mp hf
      obtain ⟨x19, e20, hf⟩ := hf
      refine hq_getR C I F_MD_75 e20 d_MD_need_29 ?_
      refine lv_iload_n C.1.1 C.1.2.1 d_MD_need_32 rfl (lv_at hl 2 rfl) ?_
      replace hf := Option.bind_eq_some_iff.mp hf
      obtain ⟨x21, e22, hf⟩ := hf
      refine hq_iald C I (t := 0) rfl e22 d_MD_need_33 ?_
      refine lv_if_le (tgt := 39) C.1.1 C.1.2.1 d_MD_need_34 (by decide) (fun c23 => ?_) (fun c23 => ?_)
      · rw [if_pos c23] at hf
        refine lv_bipush (v := 20) C.1.1 C.1.2.1 d_MD_need_39 (by decide) ?_
        refine lv_istore (i := 4) (lv' := [(4, .int (20 : Int32)), (3, .int q5.1), (0, va_rf (some t0)), (1, .int p1), (2, .int p2)]) C.1.1 C.1.2.1 d_MD_need_41 hl (by decide) (by first | rfl | simp [hq_cat, hq_catI, hq_catL]) (fun ls hl => ?_)
        refine W.widen (k := 0) (n := 0) (by decide) (by decide) ?_
        exact k_MD_need_L43 C FU t0 p1 p2 q5.1 (20 : Int32) q9.2 _ hf _ _ I ls (lv_sub hl [2, 3, 4, 1, 0] rfl)
      · rw [if_neg c23] at hf
        refine lv_iconst (v := 0) C.1.1 C.1.2.1 d_MD_need_37 (by decide) ?_
        cases hf
        exact hq_iret C I (by decide) (by decide) d_MD_need_38
set_option maxRecDepth 100000 in
set_option maxHeartbeats 4000000 in
theorem k_MD_resolve_L171 {p : Program} {l : Launch} {e : Env} {s : State} {m : MethodId} {args : Array Value} {below : List Frame} {meth : Method} {c : Code} {G : hp_G} {B : Nat} (C : hq_C p s m args meth c b_MD_resolve 6 ((Option.some Jvm.ClassFile.FieldType.int)) "LayeredLauncherModel" "resolve" gt G vwCl aTs) : ∀ (n : Nat) (t0 : Nat) (y3 : Int32) (h : hp_H) (out : Int32 × hp_H), f_MD_resolve_L171 n t0 y3 h = some out → ∀ (H : Heap) (locs : List Loc), hp_I G vwCl B s.heap h H locs → ∀ ls : Array Slot, lv_has ls 6 [(0, va_rf (some t0)), (3, .int y3)] → W p l e ({ frames := 8, cells := 0, slots := 0, locals := 196 }) s m args below meth c H locs 0 0 (MQ below (hq_Q G vwCl B (some (.int out.1)) out.2) args s 0 0 (fun q => B ≤ q)) (F0 m 171 ls []) := by
  intro n
  induction n with
  | zero => intro t0 y3 h out hf; simp [f_MD_resolve_L171] at hf
  | succ n ih =>
    intro t0 y3 h out hf H locs I ls hl
    simp only [f_MD_resolve_L171] at hf
    refine lv_iload_n C.1.1 C.1.2.1 d_MD_resolve_171 rfl (lv_at hl 1 rfl) ?_
    refine hq_aload_n C.1.1 C.1.2.1 d_MD_resolve_172 rfl (lv_at hl 0 rfl) ?_
    replace hf := Option.bind_eq_some_iff.mp hf
    obtain ⟨x44, e45, hf⟩ := hf
    refine hq_getI C I F_MD_66 e45 d_MD_resolve_173 ?_
    refine lv_icmp_ge (tgt := 233) C.1.1 C.1.2.1 d_MD_resolve_176 (by decide) (fun c46 => ?_) (fun c46 => ?_)
    · rw [if_pos c46] at hf
      refine hq_aload_n C.1.1 C.1.2.1 d_MD_resolve_233 rfl (lv_at hl 0 rfl) ?_
      replace hf := Option.bind_eq_some_iff.mp hf
      obtain ⟨x47, e48, hf⟩ := hf
      refine hq_getI C I F_MD_66 e48 d_MD_resolve_234 ?_
      cases hf
      exact hq_iret C I (by decide) (by decide) d_MD_resolve_237
    · rw [if_neg c46] at hf
      refine hq_aload_n C.1.1 C.1.2.1 d_MD_resolve_179 rfl (lv_at hl 0 rfl) ?_
      replace hf := Option.bind_eq_some_iff.mp hf
      obtain ⟨x49, e50, hf⟩ := hf
      refine hq_getR C I F_MD_72 e50 d_MD_resolve_180 ?_
      refine lv_iload_n C.1.1 C.1.2.1 d_MD_resolve_183 rfl (lv_at hl 1 rfl) ?_
      refine hq_aload_n C.1.1 C.1.2.1 d_MD_resolve_184 rfl (lv_at hl 0 rfl) ?_
      replace hf := Option.bind_eq_some_iff.mp hf
      obtain ⟨x51, e52, hf⟩ := hf
      refine hq_getR C I F_MD_72 e52 d_MD_resolve_185 ?_
      refine lv_iload_n C.1.1 C.1.2.1 d_MD_resolve_188 rfl (lv_at hl 1 rfl) ?_
      refine lv_bipush (v := 20) C.1.1 C.1.2.1 d_MD_resolve_189 (by decide) ?_
      refine lv_iadd C.1.1 C.1.2.1 d_MD_resolve_191 ?_
      replace hf := Option.bind_eq_some_iff.mp hf
      obtain ⟨x53, e54, hf⟩ := hf
      refine hq_iald C I (t := 0) rfl e54 d_MD_resolve_192 ?_
      replace hf := Option.bind_eq_some_iff.mp hf
      obtain ⟨h55, e56, hf⟩ := hf
      refine hq_iast C I (t := 0) rfl e56 d_MD_resolve_193 (fun H locs I => ?_)
      refine hq_aload_n C.1.1 C.1.2.1 d_MD_resolve_194 rfl (lv_at hl 0 rfl) ?_
      replace hf := Option.bind_eq_some_iff.mp hf
      obtain ⟨x57, e58, hf⟩ := hf
      refine hq_getR C I F_MD_75 e58 d_MD_resolve_195 ?_
      refine lv_iload_n C.1.1 C.1.2.1 d_MD_resolve_198 rfl (lv_at hl 1 rfl) ?_
      refine hq_aload_n C.1.1 C.1.2.1 d_MD_resolve_199 rfl (lv_at hl 0 rfl) ?_
      replace hf := Option.bind_eq_some_iff.mp hf
      obtain ⟨x59, e60, hf⟩ := hf
      refine hq_getR C I F_MD_75 e60 d_MD_resolve_200 ?_
      refine lv_iload_n C.1.1 C.1.2.1 d_MD_resolve_203 rfl (lv_at hl 1 rfl) ?_
      refine lv_bipush (v := 20) C.1.1 C.1.2.1 d_MD_resolve_204 (by decide) ?_
      refine lv_iadd C.1.1 C.1.2.1 d_MD_resolve_206 ?_
      replace hf := Option.bind_eq_some_iff.mp hf
      obtain ⟨x61, e62, hf⟩ := hf
      refine hq_iald C I (t := 0) rfl e62 d_MD_resolve_207 ?_
      replace hf := Option.bind_eq_some_iff.mp hf
      obtain ⟨h63, e64, hf⟩ := hf
      refine hq_iast C I (t := 0) rfl e64 d_MD_resolve_208 (fun H locs I => ?_)
      refine hq_aload_n C.1.1 C.1.2.1 d_MD_resolve_209 rfl (lv_at hl 0 rfl) ?_
      replace hf := Option.bind_eq_some_iff.mp hf
      obtain ⟨x65, e66, hf⟩ := hf
      refine hq_getR C I F_MD_78 e66 d_MD_resolve_210 ?_
      refine lv_iload_n C.1.1 C.1.2.1 d_MD_resolve_213 rfl (lv_at hl 1 rfl) ?_
      refine hq_aload_n C.1.1 C.1.2.1 d_MD_resolve_214 rfl (lv_at hl 0 rfl) ?_
      replace hf := Option.bind_eq_some_iff.mp hf
      obtain ⟨x67, e68, hf⟩ := hf
      refine hq_getR C I F_MD_78 e68 d_MD_resolve_215 ?_
      refine lv_iload_n C.1.1 C.1.2.1 d_MD_resolve_218 rfl (lv_at hl 1 rfl) ?_
      refine lv_bipush (v := 20) C.1.1 C.1.2.1 d_MD_resolve_219 (by decide) ?_
      refine lv_iadd C.1.1 C.1.2.1 d_MD_resolve_221 ?_
      replace hf := Option.bind_eq_some_iff.mp hf
      obtain ⟨x69, e70, hf⟩ := hf
      refine hq_iald C I (t := 0) rfl e70 d_MD_resolve_222 ?_
      refine lv_bipush (v := 20) C.1.1 C.1.2.1 d_MD_resolve_223 (by decide) ?_
      refine lv_isub C.1.1 C.1.2.1 d_MD_resolve_225 ?_
      replace hf := Option.bind_eq_some_iff.mp hf
      obtain ⟨h71, e72, hf⟩ := hf
      refine hq_iast C I (t := 0) rfl e72 d_MD_resolve_226 (fun H locs I => ?_)
      refine lv_iinc (v := (y3 + 1)) (lv' := [(3, .int (y3 + 1)), (0, va_rf (some t0))]) C.1.1 C.1.2.1 d_MD_resolve_227 hl (k := 1) rfl rfl (by decide) (by first | rfl | simp [hq_cat, hq_catI, hq_catL]) (fun ls hl => ?_)
      refine lv_goto (tgt := 171) C.1.1 C.1.2.1 d_MD_resolve_230 (by decide) ?_
      refine W.widen (k := 0) (n := 0) (by decide) (by decide) ?_
      exact ih t0 (y3 + 1) h71 _ hf _ _ I ls (lv_sub hl [1, 0] rfl)
set_option maxRecDepth 100000 in
set_option maxHeartbeats 4000000 in
theorem k_MD_resolve_L90 {p : Program} {l : Launch} {e : Env} {s : State} {m : MethodId} {args : Array Value} {below : List Frame} {meth : Method} {c : Code} {G : hp_G} {B : Nat} (C : hq_C p s m args meth c b_MD_resolve 6 ((Option.some Jvm.ClassFile.FieldType.int)) "LayeredLauncherModel" "resolve" gt G vwCl aTs) (k76 : Nat → Int32 → hp_H → Option (Int32 × hp_H)) (hk76 : ∀ (t0 : Nat) (y3 : Int32) (h : hp_H) (out : Int32 × hp_H), k76 t0 y3 h = some out → ∀ (H : Heap) (locs : List Loc), hp_I G vwCl B s.heap h H locs → ∀ ls : Array Slot, lv_has ls 6 [(0, va_rf (some t0)), (3, .int y3)] → W p l e ({ frames := 8, cells := 0, slots := 0, locals := 196 }) s m args below meth c H locs 0 0 (MQ below (hq_Q G vwCl B (some (.int out.1)) out.2) args s 0 0 (fun q => B ≤ q)) (F0 m 76 ls [])) : ∀ (n : Nat) (t0 : Nat) (y3 : Int32) (y4 : Int32) (h : hp_H) (out : Int32 × hp_H), f_MD_resolve_L90 k76 n t0 y3 y4 h = some out → ∀ (H : Heap) (locs : List Loc), hp_I G vwCl B s.heap h H locs → ∀ ls : Array Slot, lv_has ls 6 [(0, va_rf (some t0)), (3, .int y3), (4, .int y4)] → W p l e ({ frames := 8, cells := 0, slots := 0, locals := 196 }) s m args below meth c H locs 0 0 (MQ below (hq_Q G vwCl B (some (.int out.1)) out.2) args s 0 0 (fun q => B ≤ q)) (F0 m 90 ls []) := by
  intro n
  induction n with
  | zero => intro t0 y3 y4 h out hf; simp [f_MD_resolve_L90] at hf
  | succ n ih =>
    intro t0 y3 y4 h out hf H locs I ls hl
    simp only [f_MD_resolve_L90] at hf
    refine lv_iload C.1.1 C.1.2.1 d_MD_resolve_90 (lv_at hl 2 rfl) ?_
    refine hq_aload_n C.1.1 C.1.2.1 d_MD_resolve_92 rfl (lv_at hl 0 rfl) ?_
    replace hf := Option.bind_eq_some_iff.mp hf
    obtain ⟨x73, e74, hf⟩ := hf
    refine hq_getR C I F_MD_42 e74 d_MD_resolve_93 ?_
    refine hq_aload_n C.1.1 C.1.2.1 d_MD_resolve_96 rfl (lv_at hl 0 rfl) ?_
    replace hf := Option.bind_eq_some_iff.mp hf
    obtain ⟨x75, e76, hf⟩ := hf
    refine hq_getR C I F_MD_72 e76 d_MD_resolve_97 ?_
    refine lv_iload_n C.1.1 C.1.2.1 d_MD_resolve_100 rfl (lv_at hl 1 rfl) ?_
    replace hf := Option.bind_eq_some_iff.mp hf
    obtain ⟨x77, e78, hf⟩ := hf
    refine hq_iald C I (t := 0) rfl e78 d_MD_resolve_101 ?_
    replace hf := Option.bind_eq_some_iff.mp hf
    obtain ⟨x79, e80, hf⟩ := hf
    refine hq_iald C I (t := 0) rfl e80 d_MD_resolve_102 ?_
    refine lv_icmp_ge (tgt := 155) C.1.1 C.1.2.1 d_MD_resolve_103 (by decide) (fun c81 => ?_) (fun c81 => ?_)
    · rw [if_pos c81] at hf
      refine lv_iinc (v := (y3 + 1)) (lv' := [(3, .int (y3 + 1)), (0, va_rf (some t0)), (4, .int y4)]) C.1.1 C.1.2.1 d_MD_resolve_155 hl (k := 1) rfl rfl (by decide) (by first | rfl | simp [hq_cat, hq_catI, hq_catL]) (fun ls hl => ?_)
      refine lv_goto (tgt := 76) C.1.1 C.1.2.1 d_MD_resolve_158 (by decide) ?_
      refine W.widen (k := 0) (n := 0) (by decide) (by decide) ?_
      exact hk76 t0 (y3 + 1) h _ hf _ _ I ls (lv_sub hl [1, 0] rfl)
    · rw [if_neg c81] at hf
      refine hq_aload_n C.1.1 C.1.2.1 d_MD_resolve_106 rfl (lv_at hl 0 rfl) ?_
      refine lv_iload_n C.1.1 C.1.2.1 d_MD_resolve_107 rfl (lv_at hl 1 rfl) ?_
      refine hq_aload_n C.1.1 C.1.2.1 d_MD_resolve_108 rfl (lv_at hl 0 rfl) ?_
      replace hf := Option.bind_eq_some_iff.mp hf
      obtain ⟨x82, e83, hf⟩ := hf
      refine hq_getR C I F_MD_72 e83 d_MD_resolve_109 ?_
      refine lv_iload_n C.1.1 C.1.2.1 d_MD_resolve_112 rfl (lv_at hl 1 rfl) ?_
      replace hf := Option.bind_eq_some_iff.mp hf
      obtain ⟨x84, e85, hf⟩ := hf
      refine hq_iald C I (t := 0) rfl e85 d_MD_resolve_113 ?_
      refine lv_bipush (v := 6) C.1.1 C.1.2.1 d_MD_resolve_114 (by decide) ?_
      refine lv_imul C.1.1 C.1.2.1 d_MD_resolve_116 ?_
      refine lv_iload C.1.1 C.1.2.1 d_MD_resolve_117 (lv_at hl 2 rfl) ?_
      refine lv_iadd C.1.1 C.1.2.1 d_MD_resolve_119 ?_
      replace hf := Option.bind_eq_some_iff.mp hf
      obtain ⟨b88, e89, hf⟩ := hf
      obtain ⟨e89r, _, e89c⟩ := hp_o_inv e89
      cases e89r
      replace hf := Option.bind_eq_some_iff.mp hf
      obtain ⟨q86, e87, hf⟩ := hf
      refine hq_callW gt_good C I hl.1 (k_MD_need l G B _ t0 y3 ((x84 * (6 : Int32)) + y4) q86 e87) M_MD_186 e89c rfl ⟨rfl, rfl⟩ ⟨Nat.le_of_ble_eq_true rfl, Nat.le_of_ble_eq_true rfl⟩ rfl (Nat.le_of_ble_eq_true rfl) d_MD_resolve_120 ⟨Nat.le_of_ble_eq_true rfl, Nat.le_of_ble_eq_true rfl⟩ (fun H locs I => ?_)
      refine W.widen (k := 0) (n := 0) (by decide) (by decide) ?_
      refine lv_istore (i := 5) (lv' := [(5, .int q86.1), (0, va_rf (some t0)), (3, .int y3), (4, .int y4)]) C.1.1 C.1.2.1 d_MD_resolve_123 hl (by decide) (by first | rfl | simp [hq_cat, hq_catI, hq_catL]) (fun ls hl => ?_)
      refine lv_iload C.1.1 C.1.2.1 d_MD_resolve_125 (lv_at hl 0 rfl) ?_
      refine lv_if_ge (tgt := 149) C.1.1 C.1.2.1 d_MD_resolve_127 (by decide) (fun c90 => ?_) (fun c90 => ?_)
      · rw [if_pos c90] at hf
        refine lv_iinc (v := (y4 + 1)) (lv' := [(4, .int (y4 + 1)), (5, .int q86.1), (0, va_rf (some t0)), (3, .int y3)]) C.1.1 C.1.2.1 d_MD_resolve_149 hl (k := 3) rfl rfl (by decide) (by first | rfl | simp [hq_cat, hq_catI, hq_catL]) (fun ls hl => ?_)
        refine lv_goto (tgt := 90) C.1.1 C.1.2.1 d_MD_resolve_152 (by decide) ?_
        refine W.widen (k := 0) (n := 0) (by decide) (by decide) ?_
        exact ih t0 y3 (y4 + 1) q86.2 _ hf _ _ I ls (lv_sub hl [2, 3, 0] rfl)
      · rw [if_neg c90] at hf
        refine hq_aload_n C.1.1 C.1.2.1 d_MD_resolve_130 rfl (lv_at hl 1 rfl) ?_
        refine lv_bipush (v := 8) C.1.1 C.1.2.1 d_MD_resolve_131 (by decide) ?_
        refine hq_aload_n C.1.1 C.1.2.1 d_MD_resolve_133 rfl (lv_at hl 1 rfl) ?_
        replace hf := Option.bind_eq_some_iff.mp hf
        obtain ⟨x91, e92, hf⟩ := hf
        refine hq_getR C I F_MD_72 e92 d_MD_resolve_134 ?_
        refine lv_iload_n C.1.1 C.1.2.1 d_MD_resolve_137 rfl (lv_at hl 2 rfl) ?_
        replace hf := Option.bind_eq_some_iff.mp hf
        obtain ⟨x93, e94, hf⟩ := hf
        refine hq_iald C I (t := 0) rfl e94 d_MD_resolve_138 ?_
        refine lv_imul C.1.1 C.1.2.1 d_MD_resolve_139 ?_
        refine lv_iload C.1.1 C.1.2.1 d_MD_resolve_140 (lv_at hl 3 rfl) ?_
        refine lv_iadd C.1.1 C.1.2.1 d_MD_resolve_142 ?_
        replace hf := Option.bind_eq_some_iff.mp hf
        obtain ⟨h95, e96, hf⟩ := hf
        refine hq_put C I F_MD_63 e96 rfl rfl d_MD_resolve_143 (fun H locs I => ?_)
        refine lv_iload C.1.1 C.1.2.1 d_MD_resolve_146 (lv_at hl 0 rfl) ?_
        cases hf
        exact hq_iret C I (by decide) (by decide) d_MD_resolve_148
set_option maxRecDepth 100000 in
set_option maxHeartbeats 4000000 in
theorem k_MD_resolve_L76 {p : Program} {l : Launch} {e : Env} {s : State} {m : MethodId} {args : Array Value} {below : List Frame} {meth : Method} {c : Code} {G : hp_G} {B : Nat} (C : hq_C p s m args meth c b_MD_resolve 6 ((Option.some Jvm.ClassFile.FieldType.int)) "LayeredLauncherModel" "resolve" gt G vwCl aTs) : ∀ (n : Nat) (t0 : Nat) (y3 : Int32) (h : hp_H) (out : Int32 × hp_H), f_MD_resolve_L76 n t0 y3 h = some out → ∀ (H : Heap) (locs : List Loc), hp_I G vwCl B s.heap h H locs → ∀ ls : Array Slot, lv_has ls 6 [(0, va_rf (some t0)), (3, .int y3)] → W p l e ({ frames := 8, cells := 0, slots := 0, locals := 196 }) s m args below meth c H locs 0 0 (MQ below (hq_Q G vwCl B (some (.int out.1)) out.2) args s 0 0 (fun q => B ≤ q)) (F0 m 76 ls []) := by
  intro n
  induction n with
  | zero => intro t0 y3 h out hf; simp [f_MD_resolve_L76] at hf
  | succ n ih =>
    intro t0 y3 h out hf H locs I ls hl
    simp only [f_MD_resolve_L76] at hf
    refine lv_iload_n C.1.1 C.1.2.1 d_MD_resolve_76 rfl (lv_at hl 1 rfl) ?_
    refine lv_bipush (v := 20) C.1.1 C.1.2.1 d_MD_resolve_77 (by decide) ?_
    refine hq_aload_n C.1.1 C.1.2.1 d_MD_resolve_79 rfl (lv_at hl 0 rfl) ?_
    replace hf := Option.bind_eq_some_iff.mp hf
    obtain ⟨x37, e38, hf⟩ := hf
    refine hq_getI C I F_MD_69 e38 d_MD_resolve_80 ?_
    refine lv_iadd C.1.1 C.1.2.1 d_MD_resolve_83 ?_
    refine lv_icmp_ge (tgt := 161) C.1.1 C.1.2.1 d_MD_resolve_84 (by decide) (fun c39 => ?_) (fun c39 => ?_)
    · rw [if_pos c39] at hf
      refine hq_aload_n C.1.1 C.1.2.1 d_MD_resolve_161 rfl (lv_at hl 0 rfl) ?_
      refine hq_aload_n C.1.1 C.1.2.1 d_MD_resolve_162 rfl (lv_at hl 0 rfl) ?_
      replace hf := Option.bind_eq_some_iff.mp hf
      obtain ⟨x40, e41, hf⟩ := hf
      refine hq_getI C I F_MD_69 e41 d_MD_resolve_163 ?_
      replace hf := Option.bind_eq_some_iff.mp hf
      obtain ⟨h42, e43, hf⟩ := hf
      refine hq_put C I F_MD_66 e43 rfl rfl d_MD_resolve_166 (fun H locs I => ?_)
      refine lv_iconst (v := 0) C.1.1 C.1.2.1 d_MD_resolve_169 (by decide) ?_
      refine lv_istore_n (i := 3) (lv' := [(3, .int (0 : Int32)), (0, va_rf (some t0))]) C.1.1 C.1.2.1 d_MD_resolve_170 rfl hl (by decide) (by first | rfl | simp [hq_cat, hq_catI, hq_catL]) (fun ls hl => ?_)
      refine W.widen (k := 0) (n := 0) (by decide) (by decide) ?_
      exact k_MD_resolve_L171 C FU t0 (0 : Int32) h42 _ hf _ _ I ls (lv_sub hl [1, 0] rfl)
    · rw [if_neg c39] at hf
      refine lv_iconst (v := 0) C.1.1 C.1.2.1 d_MD_resolve_87 (by decide) ?_
      refine lv_istore (i := 4) (lv' := [(4, .int (0 : Int32)), (0, va_rf (some t0)), (3, .int y3)]) C.1.1 C.1.2.1 d_MD_resolve_88 hl (by decide) (by first | rfl | simp [hq_cat, hq_catI, hq_catL]) (fun ls hl => ?_)
      refine W.widen (k := 0) (n := 0) (by decide) (by decide) ?_
      exact k_MD_resolve_L90 C _ ih FU t0 y3 (0 : Int32) h _ hf _ _ I ls (lv_sub hl [1, 2, 0] rfl)
set_option maxRecDepth 100000 in
set_option maxHeartbeats 4000000 in
theorem k_MD_resolve (l : Launch) (G : hp_G) (B : Nat) (h : hp_H) (t0 : Nat) (out : Int32 × hp_H) (hf : f_MD_resolve h t0 = some out) : Met l y_MD_resolve (.code y_MD_resolve b_MD_resolve 6 ((Option.some Jvm.ClassFile.FieldType.int)) :: gt) ({ frames := 8, cells := 0, slots := 0, locals := 196 }) (hq_Pc G vwCl aTs B h [.ref t0]) (hq_Q G vwCl B (some (.int out.1)) out.2) 0 0 (fun q => B ≤ q) := by
  refine hq_enter (nL := 6) (by decide +kernel) (Nat.le_of_ble_eq_true rfl) ?_
  intro p e s m args below meth c C I ls hl
  have hl : lv_has ls 6 [(0, va_rf (some t0))] := hl
  unfold f_MD_resolve at hf
  refine hq_aload_n C.1.1 C.1.2.1 d_MD_resolve_0 rfl (lv_at hl 0 rfl) ?_
  replace hf := Option.bind_eq_some_iff.mp hf
  obtain ⟨b3, e4, hf⟩ := hf
  obtain ⟨e4r, _, e4c⟩ := hp_o_inv e4
  cases e4r
  replace hf := Option.bind_eq_some_iff.mp hf
  obtain ⟨q1, e2, hf⟩ := hf
  refine hq_callW gt_good C I hl.1 (k_MD_take l G B _ t0 q1 e2) M_MD_158 e4c rfl ⟨rfl, rfl⟩ ⟨Nat.le_of_ble_eq_true rfl, Nat.le_of_ble_eq_true rfl⟩ rfl (Nat.le_of_ble_eq_true rfl) d_MD_resolve_1 ⟨Nat.le_of_ble_eq_true rfl, Nat.le_of_ble_eq_true rfl⟩ (fun H locs I => ?_)
  refine W.widen (k := 0) (n := 0) (by decide) (by decide) ?_
  refine hq_aload_n C.1.1 C.1.2.1 d_MD_resolve_4 rfl (lv_at hl 0 rfl) ?_
  replace hf := Option.bind_eq_some_iff.mp hf
  obtain ⟨b7, e8, hf⟩ := hf
  obtain ⟨e8r, _, e8c⟩ := hp_o_inv e8
  cases e8r
  replace hf := Option.bind_eq_some_iff.mp hf
  obtain ⟨q5, e6, hf⟩ := hf
  refine hq_callW gt_good C I hl.1 (k_MD_colonAt l G B _ t0 q5 e6) M_MD_146 e8c rfl ⟨rfl, rfl⟩ ⟨Nat.le_of_ble_eq_true rfl, Nat.le_of_ble_eq_true rfl⟩ rfl (Nat.le_of_ble_eq_true rfl) d_MD_resolve_5 ⟨Nat.le_of_ble_eq_true rfl, Nat.le_of_ble_eq_true rfl⟩ (fun H locs I => ?_)
  refine W.widen (k := 0) (n := 0) (by decide) (by decide) ?_
  refine lv_istore_n (i := 1) (lv' := [(1, .int q5.1), (0, va_rf (some t0))]) C.1.1 C.1.2.1 d_MD_resolve_8 rfl hl (by decide) (by first | rfl | simp [hq_cat, hq_catI, hq_catL]) (fun ls hl => ?_)
  refine hq_aload_n C.1.1 C.1.2.1 d_MD_resolve_9 rfl (lv_at hl 1 rfl) ?_
  refine lv_iconst (v := 0) C.1.1 C.1.2.1 d_MD_resolve_10 (by decide) ?_
  refine lv_iload_n C.1.1 C.1.2.1 d_MD_resolve_11 rfl (lv_at hl 0 rfl) ?_
  replace hf := Option.bind_eq_some_iff.mp hf
  obtain ⟨b11, e12, hf⟩ := hf
  obtain ⟨e12r, _, e12c⟩ := hp_o_inv e12
  cases e12r
  replace hf := Option.bind_eq_some_iff.mp hf
  obtain ⟨q9, e10, hf⟩ := hf
  refine hq_callW gt_good C I hl.1 (k_MD_isName l G B _ t0 (0 : Int32) q5.1 q9 e10) M_MD_161 e12c rfl ⟨rfl, rfl⟩ ⟨Nat.le_of_ble_eq_true rfl, Nat.le_of_ble_eq_true rfl⟩ rfl (Nat.le_of_ble_eq_true rfl) d_MD_resolve_12 ⟨Nat.le_of_ble_eq_true rfl, Nat.le_of_ble_eq_true rfl⟩ (fun H locs I => ?_)
  refine W.widen (k := 0) (n := 0) (by decide) (by decide) ?_
  refine lv_if_eq (tgt := 40) C.1.1 C.1.2.1 d_MD_resolve_15 (by decide) (fun c13 => ?_) (fun c13 => ?_)
  · rw [if_pos c13] at hf
    refine lv_bipush (v := -3) C.1.1 C.1.2.1 d_MD_resolve_40 (by decide) ?_
    cases hf
    exact hq_iret C I (by decide) (by decide) d_MD_resolve_42
  · rw [if_neg c13] at hf
    refine lv_iload_n C.1.1 C.1.2.1 d_MD_resolve_18 rfl (lv_at hl 0 rfl) ?_
    refine hq_aload_n C.1.1 C.1.2.1 d_MD_resolve_19 rfl (lv_at hl 1 rfl) ?_
    replace hf := Option.bind_eq_some_iff.mp hf
    obtain ⟨x14, e15, hf⟩ := hf
    refine hq_getI C I F_MD_17 e15 d_MD_resolve_20 ?_
    refine lv_icmp_eq (tgt := 40) C.1.1 C.1.2.1 d_MD_resolve_23 (by decide) (fun c16 => ?_) (fun c16 => ?_)
    · rw [if_pos c16] at hf
      refine lv_bipush (v := -3) C.1.1 C.1.2.1 d_MD_resolve_40 (by decide) ?_
      cases hf
      exact hq_iret C I (by decide) (by decide) d_MD_resolve_42
    · rw [if_neg c16] at hf
      refine hq_aload_n C.1.1 C.1.2.1 d_MD_resolve_26 rfl (lv_at hl 1 rfl) ?_
      refine lv_iload_n C.1.1 C.1.2.1 d_MD_resolve_27 rfl (lv_at hl 0 rfl) ?_
      refine lv_iconst (v := 1) C.1.1 C.1.2.1 d_MD_resolve_28 (by decide) ?_
      refine lv_iadd C.1.1 C.1.2.1 d_MD_resolve_29 ?_
      refine hq_aload_n C.1.1 C.1.2.1 d_MD_resolve_30 rfl (lv_at hl 1 rfl) ?_
      replace hf := Option.bind_eq_some_iff.mp hf
      obtain ⟨x17, e18, hf⟩ := hf
      refine hq_getI C I F_MD_17 e18 d_MD_resolve_31 ?_
      replace hf := Option.bind_eq_some_iff.mp hf
      obtain ⟨b21, e22, hf⟩ := hf
      obtain ⟨e22r, _, e22c⟩ := hp_o_inv e22
      cases e22r
      replace hf := Option.bind_eq_some_iff.mp hf
      obtain ⟨q19, e20, hf⟩ := hf
      refine hq_callW gt_good C I hl.1 (k_MD_isRange l G B _ t0 (q5.1 + (1 : Int32)) x17 q19 e20) M_MD_167 e22c rfl ⟨rfl, rfl⟩ ⟨Nat.le_of_ble_eq_true rfl, Nat.le_of_ble_eq_true rfl⟩ rfl (Nat.le_of_ble_eq_true rfl) d_MD_resolve_34 ⟨Nat.le_of_ble_eq_true rfl, Nat.le_of_ble_eq_true rfl⟩ (fun H locs I => ?_)
      refine W.widen (k := 0) (n := 0) (by decide) (by decide) ?_
      refine lv_if_ne (tgt := 43) C.1.1 C.1.2.1 d_MD_resolve_37 (by decide) (fun c23 => ?_) (fun c23 => ?_)
      · rw [if_neg c23] at hf
        refine hq_aload_n C.1.1 C.1.2.1 d_MD_resolve_43 rfl (lv_at hl 1 rfl) ?_
        refine lv_iconst (v := -1) C.1.1 C.1.2.1 d_MD_resolve_44 (by decide) ?_
        replace hf := Option.bind_eq_some_iff.mp hf
        obtain ⟨h24, e25, hf⟩ := hf
        refine hq_put C I F_MD_63 e25 rfl rfl d_MD_resolve_45 (fun H locs I => ?_)
        refine hq_aload_n C.1.1 C.1.2.1 d_MD_resolve_48 rfl (lv_at hl 1 rfl) ?_
        replace hf := Option.bind_eq_some_iff.mp hf
        obtain ⟨b28, e29, hf⟩ := hf
        obtain ⟨e29r, _, e29c⟩ := hp_o_inv e29
        cases e29r
        replace hf := Option.bind_eq_some_iff.mp hf
        obtain ⟨q26, e27, hf⟩ := hf
        refine hq_callW gt_good C I hl.1 (k_MD_pick l G B _ t0 q26 e27) M_MD_179 e29c rfl ⟨rfl, rfl⟩ ⟨Nat.le_of_ble_eq_true rfl, Nat.le_of_ble_eq_true rfl⟩ rfl (Nat.le_of_ble_eq_true rfl) d_MD_resolve_49 ⟨Nat.le_of_ble_eq_true rfl, Nat.le_of_ble_eq_true rfl⟩ (fun H locs I => ?_)
        refine W.widen (k := 0) (n := 0) (by decide) (by decide) ?_
        refine lv_istore_n (i := 2) (lv' := [(2, .int q26.1), (1, .int q5.1), (0, va_rf (some t0))]) C.1.1 C.1.2.1 d_MD_resolve_52 rfl hl (by decide) (by first | rfl | simp [hq_cat, hq_catI, hq_catL]) (fun ls hl => ?_)
        refine lv_iload_n C.1.1 C.1.2.1 d_MD_resolve_53 rfl (lv_at hl 0 rfl) ?_
        refine lv_if_ge (tgt := 60) C.1.1 C.1.2.1 d_MD_resolve_54 (by decide) (fun c30 => ?_) (fun c30 => ?_)
        · rw [if_pos c30] at hf
          refine hq_aload_n C.1.1 C.1.2.1 d_MD_resolve_60 rfl (lv_at hl 2 rfl) ?_
          refine lv_iconst (v := 0) C.1.1 C.1.2.1 d_MD_resolve_61 (by decide) ?_
          replace hf := Option.bind_eq_some_iff.mp hf
          obtain ⟨h31, e32, hf⟩ := hf
          refine hq_put C I F_MD_69 e32 rfl rfl d_MD_resolve_62 (fun H locs I => ?_)
          refine hq_aload_n C.1.1 C.1.2.1 d_MD_resolve_65 rfl (lv_at hl 2 rfl) ?_
          refine lv_iload_n C.1.1 C.1.2.1 d_MD_resolve_66 rfl (lv_at hl 0 rfl) ?_
          refine lv_iconst (v := 0) C.1.1 C.1.2.1 d_MD_resolve_67 (by decide) ?_
          refine lv_iconst (v := -1) C.1.1 C.1.2.1 d_MD_resolve_68 (by decide) ?_
          refine lv_iconst (v := -1) C.1.1 C.1.2.1 d_MD_resolve_69 (by decide) ?_
          replace hf := Option.bind_eq_some_iff.mp hf
          obtain ⟨b35, e36, hf⟩ := hf
          obtain ⟨e36r, _, e36c⟩ := hp_o_inv e36
          cases e36r
          replace hf := Option.bind_eq_some_iff.mp hf
          obtain ⟨q33, e34, hf⟩ := hf
          refine hq_callW gt_good C I hl.1 (k_MD_add l G B _ t0 q26.1 (0 : Int32) (-1 : Int32) (-1 : Int32) q33 e34) M_MD_182 e36c rfl ⟨rfl, rfl⟩ ⟨Nat.le_of_ble_eq_true rfl, Nat.le_of_ble_eq_true rfl⟩ rfl (Nat.le_of_ble_eq_true rfl) d_MD_resolve_70 ⟨Nat.le_of_ble_eq_true rfl, Nat.le_of_ble_eq_true rfl⟩ (fun H locs I => ?_)
          refine W.widen (k := 0) (n := 0) (by decide) (by decide) ?_
          refine lv_bipush (v := 20) C.1.1 C.1.2.1 d_MD_resolve_73 (by decide) ?_
          refine lv_istore_n (i := 3) (lv' := [(3, .int (20 : Int32)), (2, .int q26.1), (1, .int q5.1), (0, va_rf (some t0))]) C.1.1 C.1.2.1 d_MD_resolve_75 rfl hl (by decide) (by first | rfl | simp [hq_cat, hq_catI, hq_catL]) (fun ls hl => ?_)
          refine W.widen (k := 0) (n := 0) (by decide) (by decide) ?_
          exact k_MD_resolve_L76 C FU t0 (20 : Int32) q33 _ hf _ _ I ls (lv_sub hl [3, 0] rfl)
        · rw [if_neg c30] at hf
          refine lv_bipush (v := -4) C.1.1 C.1.2.1 d_MD_resolve_57 (by decide) ?_
          cases hf
          exact hq_iret C I (by decide) (by decide) d_MD_resolve_59
      · rw [if_pos c23] at hf
        refine lv_bipush (v := -3) C.1.1 C.1.2.1 d_MD_resolve_40 (by decide) ?_
        cases hf
        exact hq_iret C I (by decide) (by decide) d_MD_resolve_42
set_option maxRecDepth 100000 in
set_option maxHeartbeats 4000000 in
theorem k_MD_culprit (l : Launch) (G : hp_G) (B : Nat) (h : hp_H) (t0 : Nat) (out : Int32 × hp_H) (hf : f_MD_culprit h t0 = some out) : Met l y_MD_culprit (.code y_MD_culprit b_MD_culprit 1 ((Option.some Jvm.ClassFile.FieldType.int)) :: gt) ({ frames := 0, cells := 0, slots := 0, locals := 0 }) (hq_Pc G vwCl aTs B h [.ref t0]) (hq_Q G vwCl B (some (.int out.1)) out.2) 0 0 (fun q => B ≤ q) := by
  refine hq_enter (nL := 1) (by decide +kernel) (Nat.le_of_ble_eq_true rfl) ?_
  intro p e s m args below meth c C I ls hl
  have hl : lv_has ls 1 [(0, va_rf (some t0))] := hl
  unfold f_MD_culprit at hf
  refine hq_aload_n C.1.1 C.1.2.1 d_MD_culprit_0 rfl (lv_at hl 0 rfl) ?_
  replace hf := Option.bind_eq_some_iff.mp hf
  obtain ⟨x1, e2, hf⟩ := hf
  refine hq_getI C I F_MD_63 e2 d_MD_culprit_1 ?_
  cases hf
  exact hq_iret C I (by decide) (by decide) d_MD_culprit_4
set_option maxRecDepth 100000 in
set_option maxHeartbeats 4000000 in
theorem k_MD_entry (l : Launch) (G : hp_G) (B : Nat) (h : hp_H) (t0 : Nat) (p1 : Int32) (out : Int32 × hp_H) (hf : f_MD_entry h t0 p1 = some out) : Met l y_MD_entry (.code y_MD_entry b_MD_entry 2 ((Option.some Jvm.ClassFile.FieldType.int)) :: gt) ({ frames := 0, cells := 0, slots := 0, locals := 0 }) (hq_Pc G vwCl aTs B h [.ref t0, .int p1]) (hq_Q G vwCl B (some (.int out.1)) out.2) 0 0 (fun q => B ≤ q) := by
  refine hq_enter (nL := 2) (by decide +kernel) (Nat.le_of_ble_eq_true rfl) ?_
  intro p e s m args below meth c C I ls hl
  have hl : lv_has ls 2 [(0, va_rf (some t0)), (1, .int p1)] := hl
  unfold f_MD_entry at hf
  refine lv_iload_n C.1.1 C.1.2.1 d_MD_entry_0 rfl (lv_at hl 1 rfl) ?_
  refine lv_if_lt (tgt := 12) C.1.1 C.1.2.1 d_MD_entry_1 (by decide) (fun c1 => ?_) (fun c1 => ?_)
  · rw [if_pos c1] at hf
    refine lv_iconst (v := -1) C.1.1 C.1.2.1 d_MD_entry_12 (by decide) ?_
    refine lv_goto (tgt := 22) C.1.1 C.1.2.1 d_MD_entry_13 (by decide) ?_
    cases hf
    exact hq_iret C I (by decide) (by decide) d_MD_entry_22
  · rw [if_neg c1] at hf
    refine lv_iload_n C.1.1 C.1.2.1 d_MD_entry_4 rfl (lv_at hl 1 rfl) ?_
    refine hq_aload_n C.1.1 C.1.2.1 d_MD_entry_5 rfl (lv_at hl 0 rfl) ?_
    replace hf := Option.bind_eq_some_iff.mp hf
    obtain ⟨x2, e3, hf⟩ := hf
    refine hq_getI C I F_MD_66 e3 d_MD_entry_6 ?_
    refine lv_icmp_lt (tgt := 16) C.1.1 C.1.2.1 d_MD_entry_9 (by decide) (fun c4 => ?_) (fun c4 => ?_)
    · rw [if_pos c4] at hf
      refine hq_aload_n C.1.1 C.1.2.1 d_MD_entry_16 rfl (lv_at hl 0 rfl) ?_
      replace hf := Option.bind_eq_some_iff.mp hf
      obtain ⟨x5, e6, hf⟩ := hf
      refine hq_getR C I F_MD_72 e6 d_MD_entry_17 ?_
      refine lv_iload_n C.1.1 C.1.2.1 d_MD_entry_20 rfl (lv_at hl 1 rfl) ?_
      replace hf := Option.bind_eq_some_iff.mp hf
      obtain ⟨x7, e8, hf⟩ := hf
      refine hq_iald C I (t := 0) rfl e8 d_MD_entry_21 ?_
      cases hf
      exact hq_iret C I (by decide) (by decide) d_MD_entry_22
    · rw [if_neg c4] at hf
      refine lv_iconst (v := -1) C.1.1 C.1.2.1 d_MD_entry_12 (by decide) ?_
      refine lv_goto (tgt := 22) C.1.1 C.1.2.1 d_MD_entry_13 (by decide) ?_
      cases hf
      exact hq_iret C I (by decide) (by decide) d_MD_entry_22
set_option maxRecDepth 100000 in
set_option maxHeartbeats 4000000 in
theorem k_MD_depth (l : Launch) (G : hp_G) (B : Nat) (h : hp_H) (t0 : Nat) (p1 : Int32) (out : Int32 × hp_H) (hf : f_MD_depth h t0 p1 = some out) : Met l y_MD_depth (.code y_MD_depth b_MD_depth 2 ((Option.some Jvm.ClassFile.FieldType.int)) :: gt) ({ frames := 0, cells := 0, slots := 0, locals := 0 }) (hq_Pc G vwCl aTs B h [.ref t0, .int p1]) (hq_Q G vwCl B (some (.int out.1)) out.2) 0 0 (fun q => B ≤ q) := by
  refine hq_enter (nL := 2) (by decide +kernel) (Nat.le_of_ble_eq_true rfl) ?_
  intro p e s m args below meth c C I ls hl
  have hl : lv_has ls 2 [(0, va_rf (some t0)), (1, .int p1)] := hl
  unfold f_MD_depth at hf
  refine lv_iload_n C.1.1 C.1.2.1 d_MD_depth_0 rfl (lv_at hl 1 rfl) ?_
  refine lv_if_lt (tgt := 12) C.1.1 C.1.2.1 d_MD_depth_1 (by decide) (fun c1 => ?_) (fun c1 => ?_)
  · rw [if_pos c1] at hf
    refine lv_iconst (v := -1) C.1.1 C.1.2.1 d_MD_depth_12 (by decide) ?_
    refine lv_goto (tgt := 22) C.1.1 C.1.2.1 d_MD_depth_13 (by decide) ?_
    cases hf
    exact hq_iret C I (by decide) (by decide) d_MD_depth_22
  · rw [if_neg c1] at hf
    refine lv_iload_n C.1.1 C.1.2.1 d_MD_depth_4 rfl (lv_at hl 1 rfl) ?_
    refine hq_aload_n C.1.1 C.1.2.1 d_MD_depth_5 rfl (lv_at hl 0 rfl) ?_
    replace hf := Option.bind_eq_some_iff.mp hf
    obtain ⟨x2, e3, hf⟩ := hf
    refine hq_getI C I F_MD_66 e3 d_MD_depth_6 ?_
    refine lv_icmp_lt (tgt := 16) C.1.1 C.1.2.1 d_MD_depth_9 (by decide) (fun c4 => ?_) (fun c4 => ?_)
    · rw [if_pos c4] at hf
      refine hq_aload_n C.1.1 C.1.2.1 d_MD_depth_16 rfl (lv_at hl 0 rfl) ?_
      replace hf := Option.bind_eq_some_iff.mp hf
      obtain ⟨x5, e6, hf⟩ := hf
      refine hq_getR C I F_MD_75 e6 d_MD_depth_17 ?_
      refine lv_iload_n C.1.1 C.1.2.1 d_MD_depth_20 rfl (lv_at hl 1 rfl) ?_
      replace hf := Option.bind_eq_some_iff.mp hf
      obtain ⟨x7, e8, hf⟩ := hf
      refine hq_iald C I (t := 0) rfl e8 d_MD_depth_21 ?_
      cases hf
      exact hq_iret C I (by decide) (by decide) d_MD_depth_22
    · rw [if_neg c4] at hf
      refine lv_iconst (v := -1) C.1.1 C.1.2.1 d_MD_depth_12 (by decide) ?_
      refine lv_goto (tgt := 22) C.1.1 C.1.2.1 d_MD_depth_13 (by decide) ?_
      cases hf
      exact hq_iret C I (by decide) (by decide) d_MD_depth_22
set_option maxRecDepth 100000 in
set_option maxHeartbeats 4000000 in
theorem k_MD_parent (l : Launch) (G : hp_G) (B : Nat) (h : hp_H) (t0 : Nat) (p1 : Int32) (out : Int32 × hp_H) (hf : f_MD_parent h t0 p1 = some out) : Met l y_MD_parent (.code y_MD_parent b_MD_parent 2 ((Option.some Jvm.ClassFile.FieldType.int)) :: gt) ({ frames := 0, cells := 0, slots := 0, locals := 0 }) (hq_Pc G vwCl aTs B h [.ref t0, .int p1]) (hq_Q G vwCl B (some (.int out.1)) out.2) 0 0 (fun q => B ≤ q) := by
  refine hq_enter (nL := 2) (by decide +kernel) (Nat.le_of_ble_eq_true rfl) ?_
  intro p e s m args below meth c C I ls hl
  have hl : lv_has ls 2 [(0, va_rf (some t0)), (1, .int p1)] := hl
  unfold f_MD_parent at hf
  refine lv_iload_n C.1.1 C.1.2.1 d_MD_parent_0 rfl (lv_at hl 1 rfl) ?_
  refine lv_iconst (v := 1) C.1.1 C.1.2.1 d_MD_parent_1 (by decide) ?_
  refine lv_icmp_lt (tgt := 13) C.1.1 C.1.2.1 d_MD_parent_2 (by decide) (fun c1 => ?_) (fun c1 => ?_)
  · rw [if_pos c1] at hf
    refine lv_iconst (v := -1) C.1.1 C.1.2.1 d_MD_parent_13 (by decide) ?_
    refine lv_goto (tgt := 23) C.1.1 C.1.2.1 d_MD_parent_14 (by decide) ?_
    cases hf
    exact hq_iret C I (by decide) (by decide) d_MD_parent_23
  · rw [if_neg c1] at hf
    refine lv_iload_n C.1.1 C.1.2.1 d_MD_parent_5 rfl (lv_at hl 1 rfl) ?_
    refine hq_aload_n C.1.1 C.1.2.1 d_MD_parent_6 rfl (lv_at hl 0 rfl) ?_
    replace hf := Option.bind_eq_some_iff.mp hf
    obtain ⟨x2, e3, hf⟩ := hf
    refine hq_getI C I F_MD_66 e3 d_MD_parent_7 ?_
    refine lv_icmp_lt (tgt := 17) C.1.1 C.1.2.1 d_MD_parent_10 (by decide) (fun c4 => ?_) (fun c4 => ?_)
    · rw [if_pos c4] at hf
      refine hq_aload_n C.1.1 C.1.2.1 d_MD_parent_17 rfl (lv_at hl 0 rfl) ?_
      replace hf := Option.bind_eq_some_iff.mp hf
      obtain ⟨x5, e6, hf⟩ := hf
      refine hq_getR C I F_MD_78 e6 d_MD_parent_18 ?_
      refine lv_iload_n C.1.1 C.1.2.1 d_MD_parent_21 rfl (lv_at hl 1 rfl) ?_
      replace hf := Option.bind_eq_some_iff.mp hf
      obtain ⟨x7, e8, hf⟩ := hf
      refine hq_iald C I (t := 0) rfl e8 d_MD_parent_22 ?_
      cases hf
      exact hq_iret C I (by decide) (by decide) d_MD_parent_23
    · rw [if_neg c4] at hf
      refine lv_iconst (v := -1) C.1.1 C.1.2.1 d_MD_parent_13 (by decide) ?_
      refine lv_goto (tgt := 23) C.1.1 C.1.2.1 d_MD_parent_14 (by decide) ?_
      cases hf
      exact hq_iret C I (by decide) (by decide) d_MD_parent_23
set_option maxRecDepth 100000 in
set_option maxHeartbeats 4000000 in
theorem k_MD_find_L21 {p : Program} {l : Launch} {e : Env} {s : State} {m : MethodId} {args : Array Value} {below : List Frame} {meth : Method} {c : Code} {G : hp_G} {B : Nat} (C : hq_C p s m args meth c b_MD_find 5 ((Option.some Jvm.ClassFile.FieldType.int)) "LayeredLauncherModel" "find" gt G vwCl aTs) : ∀ (n : Nat) (t0 : Nat) (y1 : Int32) (y2 : Int32) (y3 : Int32) (y4 : Int32) (h : hp_H) (out : Int32 × hp_H), f_MD_find_L21 n t0 y1 y2 y3 y4 h = some out → ∀ (H : Heap) (locs : List Loc), hp_I G vwCl B s.heap h H locs → ∀ ls : Array Slot, lv_has ls 5 [(0, va_rf (some t0)), (1, .int y1), (2, .int y2), (3, .int y3), (4, .int y4)] → W p l e ({ frames := 0, cells := 0, slots := 0, locals := 0 }) s m args below meth c H locs 0 0 (MQ below (hq_Q G vwCl B (some (.int out.1)) out.2) args s 0 0 (fun q => B ≤ q)) (F0 m 21 ls []) := by
  intro n
  induction n with
  | zero => intro t0 y1 y2 y3 y4 h out hf; simp [f_MD_find_L21] at hf
  | succ n ih =>
    intro t0 y1 y2 y3 y4 h out hf H locs I ls hl
    simp only [f_MD_find_L21] at hf
    refine lv_iload C.1.1 C.1.2.1 d_MD_find_21 (lv_at hl 4 rfl) ?_
    refine hq_aload_n C.1.1 C.1.2.1 d_MD_find_23 rfl (lv_at hl 0 rfl) ?_
    replace hf := Option.bind_eq_some_iff.mp hf
    obtain ⟨x4, e5, hf⟩ := hf
    refine hq_getI C I F_MD_66 e5 d_MD_find_24 ?_
    refine lv_icmp_ge (tgt := 92) C.1.1 C.1.2.1 d_MD_find_27 (by decide) (fun c6 => ?_) (fun c6 => ?_)
    · rw [if_pos c6] at hf
      refine lv_iload_n C.1.1 C.1.2.1 d_MD_find_92 rfl (lv_at hl 3 rfl) ?_
      cases hf
      exact hq_iret C I (by decide) (by decide) d_MD_find_93
    · rw [if_neg c6] at hf
      refine hq_aload_n C.1.1 C.1.2.1 d_MD_find_30 rfl (lv_at hl 0 rfl) ?_
      replace hf := Option.bind_eq_some_iff.mp hf
      obtain ⟨x7, e8, hf⟩ := hf
      refine hq_getR C I F_MD_75 e8 d_MD_find_31 ?_
      refine lv_iload C.1.1 C.1.2.1 d_MD_find_34 (lv_at hl 4 rfl) ?_
      replace hf := Option.bind_eq_some_iff.mp hf
      obtain ⟨x9, e10, hf⟩ := hf
      refine hq_iald C I (t := 0) rfl e10 d_MD_find_36 ?_
      refine lv_iload_n C.1.1 C.1.2.1 d_MD_find_37 rfl (lv_at hl 1 rfl) ?_
      refine lv_icmp_lt (tgt := 86) C.1.1 C.1.2.1 d_MD_find_38 (by decide) (fun c11 => ?_) (fun c11 => ?_)
      · rw [if_pos c11] at hf
        refine lv_iinc (v := (y4 + 1)) (lv' := [(4, .int (y4 + 1)), (0, va_rf (some t0)), (1, .int y1), (2, .int y2), (3, .int y3)]) C.1.1 C.1.2.1 d_MD_find_86 hl (k := 4) rfl rfl (by decide) (by first | rfl | simp [hq_cat, hq_catI, hq_catL]) (fun ls hl => ?_)
        refine lv_goto (tgt := 21) C.1.1 C.1.2.1 d_MD_find_89 (by decide) ?_
        refine W.widen (k := 0) (n := 0) (by decide) (by decide) ?_
        exact ih t0 y1 y2 y3 (y4 + 1) h _ hf _ _ I ls (lv_sub hl [1, 2, 3, 4, 0] rfl)
      · rw [if_neg c11] at hf
        refine hq_aload_n C.1.1 C.1.2.1 d_MD_find_41 rfl (lv_at hl 0 rfl) ?_
        replace hf := Option.bind_eq_some_iff.mp hf
        obtain ⟨x12, e13, hf⟩ := hf
        refine hq_getR C I F_MD_39 e13 d_MD_find_42 ?_
        refine hq_aload_n C.1.1 C.1.2.1 d_MD_find_45 rfl (lv_at hl 0 rfl) ?_
        replace hf := Option.bind_eq_some_iff.mp hf
        obtain ⟨x14, e15, hf⟩ := hf
        refine hq_getR C I F_MD_72 e15 d_MD_find_46 ?_
        refine lv_iload C.1.1 C.1.2.1 d_MD_find_49 (lv_at hl 4 rfl) ?_
        replace hf := Option.bind_eq_some_iff.mp hf
        obtain ⟨x16, e17, hf⟩ := hf
        refine hq_iald C I (t := 0) rfl e17 d_MD_find_51 ?_
        replace hf := Option.bind_eq_some_iff.mp hf
        obtain ⟨x18, e19, hf⟩ := hf
        refine hq_iald C I (t := 0) rfl e19 d_MD_find_52 ?_
        refine lv_iload_n C.1.1 C.1.2.1 d_MD_find_53 rfl (lv_at hl 2 rfl) ?_
        refine lv_ishr C.1.1 C.1.2.1 d_MD_find_54 ?_
        refine lv_iconst (v := 1) C.1.1 C.1.2.1 d_MD_find_55 (by decide) ?_
        refine lv_iand C.1.1 C.1.2.1 d_MD_find_56 ?_
        refine lv_if_ne (tgt := 63) C.1.1 C.1.2.1 d_MD_find_57 (by decide) (fun c20 => ?_) (fun c20 => ?_)
        · rw [if_neg c20] at hf
          refine lv_iload_n C.1.1 C.1.2.1 d_MD_find_63 rfl (lv_at hl 3 rfl) ?_
          refine lv_if_lt (tgt := 83) C.1.1 C.1.2.1 d_MD_find_64 (by decide) (fun c21 => ?_) (fun c21 => ?_)
          · rw [if_pos c21] at hf
            refine lv_iload C.1.1 C.1.2.1 d_MD_find_83 (lv_at hl 4 rfl) ?_
            refine lv_istore_n (i := 3) (lv' := [(3, .int y4), (0, va_rf (some t0)), (1, .int y1), (2, .int y2), (4, .int y4)]) C.1.1 C.1.2.1 d_MD_find_85 rfl hl (by decide) (by first | rfl | simp [hq_cat, hq_catI, hq_catL]) (fun ls hl => ?_)
            refine lv_iinc (v := (y4 + 1)) (lv' := [(4, .int (y4 + 1)), (3, .int y4), (0, va_rf (some t0)), (1, .int y1), (2, .int y2)]) C.1.1 C.1.2.1 d_MD_find_86 hl (k := 4) rfl rfl (by decide) (by first | rfl | simp [hq_cat, hq_catI, hq_catL]) (fun ls hl => ?_)
            refine lv_goto (tgt := 21) C.1.1 C.1.2.1 d_MD_find_89 (by decide) ?_
            refine W.widen (k := 0) (n := 0) (by decide) (by decide) ?_
            exact ih t0 y1 y2 y4 (y4 + 1) h _ hf _ _ I ls (lv_sub hl [2, 3, 4, 1, 0] rfl)
          · rw [if_neg c21] at hf
            refine hq_aload_n C.1.1 C.1.2.1 d_MD_find_67 rfl (lv_at hl 0 rfl) ?_
            replace hf := Option.bind_eq_some_iff.mp hf
            obtain ⟨x22, e23, hf⟩ := hf
            refine hq_getR C I F_MD_75 e23 d_MD_find_68 ?_
            refine lv_iload C.1.1 C.1.2.1 d_MD_find_71 (lv_at hl 4 rfl) ?_
            replace hf := Option.bind_eq_some_iff.mp hf
            obtain ⟨x24, e25, hf⟩ := hf
            refine hq_iald C I (t := 0) rfl e25 d_MD_find_73 ?_
            refine hq_aload_n C.1.1 C.1.2.1 d_MD_find_74 rfl (lv_at hl 0 rfl) ?_
            replace hf := Option.bind_eq_some_iff.mp hf
            obtain ⟨x26, e27, hf⟩ := hf
            refine hq_getR C I F_MD_75 e27 d_MD_find_75 ?_
            refine lv_iload_n C.1.1 C.1.2.1 d_MD_find_78 rfl (lv_at hl 3 rfl) ?_
            replace hf := Option.bind_eq_some_iff.mp hf
            obtain ⟨x28, e29, hf⟩ := hf
            refine hq_iald C I (t := 0) rfl e29 d_MD_find_79 ?_
            refine lv_icmp_le (tgt := 86) C.1.1 C.1.2.1 d_MD_find_80 (by decide) (fun c30 => ?_) (fun c30 => ?_)
            · rw [if_pos c30] at hf
              refine lv_iinc (v := (y4 + 1)) (lv' := [(4, .int (y4 + 1)), (0, va_rf (some t0)), (1, .int y1), (2, .int y2), (3, .int y3)]) C.1.1 C.1.2.1 d_MD_find_86 hl (k := 4) rfl rfl (by decide) (by first | rfl | simp [hq_cat, hq_catI, hq_catL]) (fun ls hl => ?_)
              refine lv_goto (tgt := 21) C.1.1 C.1.2.1 d_MD_find_89 (by decide) ?_
              refine W.widen (k := 0) (n := 0) (by decide) (by decide) ?_
              exact ih t0 y1 y2 y3 (y4 + 1) h _ hf _ _ I ls (lv_sub hl [1, 2, 3, 4, 0] rfl)
            · rw [if_neg c30] at hf
              refine lv_iload C.1.1 C.1.2.1 d_MD_find_83 (lv_at hl 4 rfl) ?_
              refine lv_istore_n (i := 3) (lv' := [(3, .int y4), (0, va_rf (some t0)), (1, .int y1), (2, .int y2), (4, .int y4)]) C.1.1 C.1.2.1 d_MD_find_85 rfl hl (by decide) (by first | rfl | simp [hq_cat, hq_catI, hq_catL]) (fun ls hl => ?_)
              refine lv_iinc (v := (y4 + 1)) (lv' := [(4, .int (y4 + 1)), (3, .int y4), (0, va_rf (some t0)), (1, .int y1), (2, .int y2)]) C.1.1 C.1.2.1 d_MD_find_86 hl (k := 4) rfl rfl (by decide) (by first | rfl | simp [hq_cat, hq_catI, hq_catL]) (fun ls hl => ?_)
              refine lv_goto (tgt := 21) C.1.1 C.1.2.1 d_MD_find_89 (by decide) ?_
              refine W.widen (k := 0) (n := 0) (by decide) (by decide) ?_
              exact ih t0 y1 y2 y4 (y4 + 1) h _ hf _ _ I ls (lv_sub hl [2, 3, 4, 1, 0] rfl)
        · rw [if_pos c20] at hf
          refine lv_goto (tgt := 86) C.1.1 C.1.2.1 d_MD_find_60 (by decide) ?_
          refine lv_iinc (v := (y4 + 1)) (lv' := [(4, .int (y4 + 1)), (0, va_rf (some t0)), (1, .int y1), (2, .int y2), (3, .int y3)]) C.1.1 C.1.2.1 d_MD_find_86 hl (k := 4) rfl rfl (by decide) (by first | rfl | simp [hq_cat, hq_catI, hq_catL]) (fun ls hl => ?_)
          refine lv_goto (tgt := 21) C.1.1 C.1.2.1 d_MD_find_89 (by decide) ?_
          refine W.widen (k := 0) (n := 0) (by decide) (by decide) ?_
          exact ih t0 y1 y2 y3 (y4 + 1) h _ hf _ _ I ls (lv_sub hl [1, 2, 3, 4, 0] rfl)
set_option maxRecDepth 100000 in
set_option maxHeartbeats 4000000 in
theorem k_MD_find (l : Launch) (G : hp_G) (B : Nat) (h : hp_H) (t0 : Nat) (p1 : Int32) (p2 : Int32) (out : Int32 × hp_H) (hf : f_MD_find h t0 p1 p2 = some out) : Met l y_MD_find (.code y_MD_find b_MD_find 5 ((Option.some Jvm.ClassFile.FieldType.int)) :: gt) ({ frames := 0, cells := 0, slots := 0, locals := 0 }) (hq_Pc G vwCl aTs B h [.ref t0, .int p1, .int p2]) (hq_Q G vwCl B (some (.int out.1)) out.2) 0 0 (fun q => B ≤ q) := by
  refine hq_enter (nL := 5) (by decide +kernel) (Nat.le_of_ble_eq_true rfl) ?_
  intro p e s m args below meth c C I ls hl
  have hl : lv_has ls 5 [(0, va_rf (some t0)), (1, .int p1), (2, .int p2)] := hl
  unfold f_MD_find at hf
  refine lv_iload_n C.1.1 C.1.2.1 d_MD_find_0 rfl (lv_at hl 1 rfl) ?_
  refine lv_if_lt (tgt := 14) C.1.1 C.1.2.1 d_MD_find_1 (by decide) (fun c1 => ?_) (fun c1 => ?_)
  · rw [if_pos c1] at hf
    refine lv_iconst (v := -1) C.1.1 C.1.2.1 d_MD_find_14 (by decide) ?_
    cases hf
    exact hq_iret C I (by decide) (by decide) d_MD_find_15
  · rw [if_neg c1] at hf
    refine lv_iload_n C.1.1 C.1.2.1 d_MD_find_4 rfl (lv_at hl 2 rfl) ?_
    refine lv_if_lt (tgt := 14) C.1.1 C.1.2.1 d_MD_find_5 (by decide) (fun c2 => ?_) (fun c2 => ?_)
    · rw [if_pos c2] at hf
      refine lv_iconst (v := -1) C.1.1 C.1.2.1 d_MD_find_14 (by decide) ?_
      cases hf
      exact hq_iret C I (by decide) (by decide) d_MD_find_15
    · rw [if_neg c2] at hf
      refine lv_iload_n C.1.1 C.1.2.1 d_MD_find_8 rfl (lv_at hl 2 rfl) ?_
      refine lv_bipush (v := 31) C.1.1 C.1.2.1 d_MD_find_9 (by decide) ?_
      refine lv_icmp_le (tgt := 16) C.1.1 C.1.2.1 d_MD_find_11 (by decide) (fun c3 => ?_) (fun c3 => ?_)
      · rw [if_pos c3] at hf
        refine lv_iconst (v := -1) C.1.1 C.1.2.1 d_MD_find_16 (by decide) ?_
        refine lv_istore_n (i := 3) (lv' := [(3, .int (-1 : Int32)), (0, va_rf (some t0)), (1, .int p1), (2, .int p2)]) C.1.1 C.1.2.1 d_MD_find_17 rfl hl (by decide) (by first | rfl | simp [hq_cat, hq_catI, hq_catL]) (fun ls hl => ?_)
        refine lv_iconst (v := 0) C.1.1 C.1.2.1 d_MD_find_18 (by decide) ?_
        refine lv_istore (i := 4) (lv' := [(4, .int (0 : Int32)), (3, .int (-1 : Int32)), (0, va_rf (some t0)), (1, .int p1), (2, .int p2)]) C.1.1 C.1.2.1 d_MD_find_19 hl (by decide) (by first | rfl | simp [hq_cat, hq_catI, hq_catL]) (fun ls hl => ?_)
        refine W.widen (k := 0) (n := 0) (by decide) (by decide) ?_
        exact k_MD_find_L21 C FU t0 p1 p2 (-1 : Int32) (0 : Int32) h _ hf _ _ I ls (lv_sub hl [2, 3, 4, 1, 0] rfl)
      · rw [if_neg c3] at hf
        refine lv_iconst (v := -1) C.1.1 C.1.2.1 d_MD_find_14 (by decide) ?_
        cases hf
        exact hq_iret C I (by decide) (by decide) d_MD_find_15
set_option maxRecDepth 100000 in
set_option maxHeartbeats 4000000 in
theorem k_MD_text (l : Launch) (G : hp_G) (B : Nat) (h : hp_H) (t0 : Nat) (p1 : Int32) (p2 : Int32) (out : Int32 × hp_H) (hf : f_MD_text h t0 p1 p2 = some out) : Met l y_MD_text (.code y_MD_text b_MD_text 3 ((Option.some Jvm.ClassFile.FieldType.int)) :: gt) ({ frames := 1, cells := 0, slots := 0, locals := 21 }) (hq_Pc G vwCl aTs B h [.ref t0, .int p1, .int p2]) (hq_Q G vwCl B (some (.int out.1)) out.2) 0 0 (fun q => B ≤ q) := by
  refine hq_enter (nL := 3) (by decide +kernel) (Nat.le_of_ble_eq_true rfl) ?_
  intro p e s m args below meth c C I ls hl
  have hl : lv_has ls 3 [(0, va_rf (some t0)), (1, .int p1), (2, .int p2)] := hl
  unfold f_MD_text at hf
  refine hq_aload_n C.1.1 C.1.2.1 d_MD_text_0 rfl (lv_at hl 0 rfl) ?_
  refine lv_iload_n C.1.1 C.1.2.1 d_MD_text_1 rfl (lv_at hl 1 rfl) ?_
  replace hf := Option.bind_eq_some_iff.mp hf
  obtain ⟨b3, e4, hf⟩ := hf
  obtain ⟨e4r, _, e4c⟩ := hp_o_inv e4
  cases e4r
  replace hf := Option.bind_eq_some_iff.mp hf
  obtain ⟨q1, e2, hf⟩ := hf
  refine hq_callW gt_good C I hl.1 (k_MD_none l G B _ t0 p1 q1 e2) M_MD_164 e4c rfl ⟨rfl, rfl⟩ ⟨Nat.le_of_ble_eq_true rfl, Nat.le_of_ble_eq_true rfl⟩ rfl (Nat.le_of_ble_eq_true rfl) d_MD_text_2 ⟨Nat.le_of_ble_eq_true rfl, Nat.le_of_ble_eq_true rfl⟩ (fun H locs I => ?_)
  refine W.widen (k := 0) (n := 0) (by decide) (by decide) ?_
  refine lv_if_ne (tgt := 23) C.1.1 C.1.2.1 d_MD_text_5 (by decide) (fun c5 => ?_) (fun c5 => ?_)
  · rw [if_neg c5] at hf
    refine lv_iconst (v := -1) C.1.1 C.1.2.1 d_MD_text_23 (by decide) ?_
    cases hf
    exact hq_iret C I (by decide) (by decide) d_MD_text_24
  · rw [if_pos c5] at hf
    refine lv_iload_n C.1.1 C.1.2.1 d_MD_text_8 rfl (lv_at hl 2 rfl) ?_
    refine lv_iconst (v := -1) C.1.1 C.1.2.1 d_MD_text_9 (by decide) ?_
    refine lv_icmp_lt (tgt := 23) C.1.1 C.1.2.1 d_MD_text_10 (by decide) (fun c6 => ?_) (fun c6 => ?_)
    · rw [if_pos c6] at hf
      refine lv_iconst (v := -1) C.1.1 C.1.2.1 d_MD_text_23 (by decide) ?_
      cases hf
      exact hq_iret C I (by decide) (by decide) d_MD_text_24
    · rw [if_neg c6] at hf
      refine lv_iload_n C.1.1 C.1.2.1 d_MD_text_13 rfl (lv_at hl 2 rfl) ?_
      refine hq_aload_n C.1.1 C.1.2.1 d_MD_text_14 rfl (lv_at hl 0 rfl) ?_
      replace hf := Option.bind_eq_some_iff.mp hf
      obtain ⟨x7, e8, hf⟩ := hf
      refine hq_getR C I F_MD_26 e8 d_MD_text_15 ?_
      refine lv_iload_n C.1.1 C.1.2.1 d_MD_text_18 rfl (lv_at hl 1 rfl) ?_
      replace hf := Option.bind_eq_some_iff.mp hf
      obtain ⟨x9, e10, hf⟩ := hf
      refine hq_iald C I (t := 0) rfl e10 d_MD_text_19 ?_
      refine lv_icmp_lt (tgt := 25) C.1.1 C.1.2.1 d_MD_text_20 (by decide) (fun c11 => ?_) (fun c11 => ?_)
      · rw [if_pos c11] at hf
        refine lv_iload_n C.1.1 C.1.2.1 d_MD_text_25 rfl (lv_at hl 2 rfl) ?_
        refine lv_if_ge (tgt := 38) C.1.1 C.1.2.1 d_MD_text_26 (by decide) (fun c12 => ?_) (fun c12 => ?_)
        · rw [if_pos c12] at hf
          refine hq_aload_n C.1.1 C.1.2.1 d_MD_text_38 rfl (lv_at hl 0 rfl) ?_
          replace hf := Option.bind_eq_some_iff.mp hf
          obtain ⟨x13, e14, hf⟩ := hf
          refine hq_getR C I F_MD_29 e14 d_MD_text_39 ?_
          refine lv_iload_n C.1.1 C.1.2.1 d_MD_text_42 rfl (lv_at hl 1 rfl) ?_
          refine lv_bipush (v := 21) C.1.1 C.1.2.1 d_MD_text_43 (by decide) ?_
          refine lv_imul C.1.1 C.1.2.1 d_MD_text_45 ?_
          refine lv_iload_n C.1.1 C.1.2.1 d_MD_text_46 rfl (lv_at hl 2 rfl) ?_
          refine lv_iadd C.1.1 C.1.2.1 d_MD_text_47 ?_
          replace hf := Option.bind_eq_some_iff.mp hf
          obtain ⟨x15, e16, hf⟩ := hf
          refine hq_iald C I (t := 0) rfl e16 d_MD_text_48 ?_
          cases hf
          exact hq_iret C I (by decide) (by decide) d_MD_text_49
        · rw [if_neg c12] at hf
          refine hq_aload_n C.1.1 C.1.2.1 d_MD_text_29 rfl (lv_at hl 0 rfl) ?_
          replace hf := Option.bind_eq_some_iff.mp hf
          obtain ⟨x17, e18, hf⟩ := hf
          refine hq_getR C I F_MD_26 e18 d_MD_text_30 ?_
          refine lv_iload_n C.1.1 C.1.2.1 d_MD_text_33 rfl (lv_at hl 1 rfl) ?_
          replace hf := Option.bind_eq_some_iff.mp hf
          obtain ⟨x19, e20, hf⟩ := hf
          refine hq_iald C I (t := 0) rfl e20 d_MD_text_34 ?_
          refine lv_goto (tgt := 49) C.1.1 C.1.2.1 d_MD_text_35 (by decide) ?_
          cases hf
          exact hq_iret C I (by decide) (by decide) d_MD_text_49
      · rw [if_neg c11] at hf
        refine lv_iconst (v := -1) C.1.1 C.1.2.1 d_MD_text_23 (by decide) ?_
        cases hf
        exact hq_iret C I (by decide) (by decide) d_MD_text_24
set_option maxRecDepth 100000 in
set_option maxHeartbeats 4000000 in
theorem k_MD_holders_L4 {p : Program} {l : Launch} {e : Env} {s : State} {m : MethodId} {args : Array Value} {below : List Frame} {meth : Method} {c : Code} {G : hp_G} {B : Nat} (C : hq_C p s m args meth c b_MD_holders 4 ((Option.some Jvm.ClassFile.FieldType.int)) "LayeredLauncherModel" "holders" gt G vwCl aTs) : ∀ (n : Nat) (t0 : Nat) (y1 : Int32) (y2 : Int32) (y3 : Int32) (h : hp_H) (out : Int32 × hp_H), f_MD_holders_L4 n t0 y1 y2 y3 h = some out → ∀ (H : Heap) (locs : List Loc), hp_I G vwCl B s.heap h H locs → ∀ ls : Array Slot, lv_has ls 4 [(0, va_rf (some t0)), (1, .int y1), (2, .int y2), (3, .int y3)] → W p l e ({ frames := 0, cells := 0, slots := 0, locals := 0 }) s m args below meth c H locs 0 0 (MQ below (hq_Q G vwCl B (some (.int out.1)) out.2) args s 0 0 (fun q => B ≤ q)) (F0 m 4 ls []) := by
  intro n
  induction n with
  | zero => intro t0 y1 y2 y3 h out hf; simp [f_MD_holders_L4] at hf
  | succ n ih =>
    intro t0 y1 y2 y3 h out hf H locs I ls hl
    simp only [f_MD_holders_L4] at hf
    refine lv_iload_n C.1.1 C.1.2.1 d_MD_holders_4 rfl (lv_at hl 3 rfl) ?_
    refine hq_aload_n C.1.1 C.1.2.1 d_MD_holders_5 rfl (lv_at hl 0 rfl) ?_
    replace hf := Option.bind_eq_some_iff.mp hf
    obtain ⟨x1, e2, hf⟩ := hf
    refine hq_getI C I F_MD_66 e2 d_MD_holders_6 ?_
    refine lv_icmp_ge (tgt := 36) C.1.1 C.1.2.1 d_MD_holders_9 (by decide) (fun c3 => ?_) (fun c3 => ?_)
    · rw [if_pos c3] at hf
      refine lv_iload_n C.1.1 C.1.2.1 d_MD_holders_36 rfl (lv_at hl 2 rfl) ?_
      cases hf
      exact hq_iret C I (by decide) (by decide) d_MD_holders_37
    · rw [if_neg c3] at hf
      refine lv_iload_n C.1.1 C.1.2.1 d_MD_holders_12 rfl (lv_at hl 2 rfl) ?_
      refine hq_aload_n C.1.1 C.1.2.1 d_MD_holders_13 rfl (lv_at hl 0 rfl) ?_
      replace hf := Option.bind_eq_some_iff.mp hf
      obtain ⟨x4, e5, hf⟩ := hf
      refine hq_getR C I F_MD_39 e5 d_MD_holders_14 ?_
      refine hq_aload_n C.1.1 C.1.2.1 d_MD_holders_17 rfl (lv_at hl 0 rfl) ?_
      replace hf := Option.bind_eq_some_iff.mp hf
      obtain ⟨x6, e7, hf⟩ := hf
      refine hq_getR C I F_MD_72 e7 d_MD_holders_18 ?_
      refine lv_iload_n C.1.1 C.1.2.1 d_MD_holders_21 rfl (lv_at hl 3 rfl) ?_
      replace hf := Option.bind_eq_some_iff.mp hf
      obtain ⟨x8, e9, hf⟩ := hf
      refine hq_iald C I (t := 0) rfl e9 d_MD_holders_22 ?_
      replace hf := Option.bind_eq_some_iff.mp hf
      obtain ⟨x10, e11, hf⟩ := hf
      refine hq_iald C I (t := 0) rfl e11 d_MD_holders_23 ?_
      refine lv_iload_n C.1.1 C.1.2.1 d_MD_holders_24 rfl (lv_at hl 1 rfl) ?_
      refine lv_ishr C.1.1 C.1.2.1 d_MD_holders_25 ?_
      refine lv_iconst (v := 1) C.1.1 C.1.2.1 d_MD_holders_26 (by decide) ?_
      refine lv_iand C.1.1 C.1.2.1 d_MD_holders_27 ?_
      refine lv_iadd C.1.1 C.1.2.1 d_MD_holders_28 ?_
      refine lv_istore_n (i := 2) (lv' := [(2, .int (y2 + ((x10 >>> (y1 &&& 31)) &&& (1 : Int32)))), (0, va_rf (some t0)), (1, .int y1), (3, .int y3)]) C.1.1 C.1.2.1 d_MD_holders_29 rfl hl (by decide) (by first | rfl | simp [hq_cat, hq_catI, hq_catL]) (fun ls hl => ?_)
      refine lv_iinc (v := (y3 + 1)) (lv' := [(3, .int (y3 + 1)), (2, .int (y2 + ((x10 >>> (y1 &&& 31)) &&& (1 : Int32)))), (0, va_rf (some t0)), (1, .int y1)]) C.1.1 C.1.2.1 d_MD_holders_30 hl (k := 3) rfl rfl (by decide) (by first | rfl | simp [hq_cat, hq_catI, hq_catL]) (fun ls hl => ?_)
      refine lv_goto (tgt := 4) C.1.1 C.1.2.1 d_MD_holders_33 (by decide) ?_
      refine W.widen (k := 0) (n := 0) (by decide) (by decide) ?_
      exact ih t0 y1 (y2 + ((x10 >>> (y1 &&& 31)) &&& (1 : Int32))) (y3 + 1) h _ hf _ _ I ls (lv_sub hl [2, 3, 1, 0] rfl)
set_option maxRecDepth 100000 in
set_option maxHeartbeats 4000000 in
theorem k_MD_holders (l : Launch) (G : hp_G) (B : Nat) (h : hp_H) (t0 : Nat) (p1 : Int32) (out : Int32 × hp_H) (hf : f_MD_holders h t0 p1 = some out) : Met l y_MD_holders (.code y_MD_holders b_MD_holders 4 ((Option.some Jvm.ClassFile.FieldType.int)) :: gt) ({ frames := 0, cells := 0, slots := 0, locals := 0 }) (hq_Pc G vwCl aTs B h [.ref t0, .int p1]) (hq_Q G vwCl B (some (.int out.1)) out.2) 0 0 (fun q => B ≤ q) := by
  refine hq_enter (nL := 4) (by decide +kernel) (Nat.le_of_ble_eq_true rfl) ?_
  intro p e s m args below meth c C I ls hl
  have hl : lv_has ls 4 [(0, va_rf (some t0)), (1, .int p1)] := hl
  unfold f_MD_holders at hf
  refine lv_iconst (v := 0) C.1.1 C.1.2.1 d_MD_holders_0 (by decide) ?_
  refine lv_istore_n (i := 2) (lv' := [(2, .int (0 : Int32)), (0, va_rf (some t0)), (1, .int p1)]) C.1.1 C.1.2.1 d_MD_holders_1 rfl hl (by decide) (by first | rfl | simp [hq_cat, hq_catI, hq_catL]) (fun ls hl => ?_)
  refine lv_iconst (v := 0) C.1.1 C.1.2.1 d_MD_holders_2 (by decide) ?_
  refine lv_istore_n (i := 3) (lv' := [(3, .int (0 : Int32)), (2, .int (0 : Int32)), (0, va_rf (some t0)), (1, .int p1)]) C.1.1 C.1.2.1 d_MD_holders_3 rfl hl (by decide) (by first | rfl | simp [hq_cat, hq_catI, hq_catL]) (fun ls hl => ?_)
  refine W.widen (k := 0) (n := 0) (by decide) (by decide) ?_
  exact k_MD_holders_L4 C FU t0 p1 (0 : Int32) (0 : Int32) h _ hf _ _ I ls (lv_sub hl [2, 3, 1, 0] rfl)
