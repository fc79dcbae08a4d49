set_option maxRecDepth 100000 in
set_option maxHeartbeats 4000000 in
theorem k_MD_secondIs_L7 {p : Program} {l : Launch} {e : Env} {s : State} {m : MethodId} {args : Array Value} {below : List Frame} {meth : Method} {c : Code} {G : hp_G} {B : Nat} (C : hq_C p s m args meth c b_MD_secondIs 4 ((Option.none : Option Jvm.ClassFile.FieldType)) "LayeredLauncherModel" "secondIs" gt G vwCl aTs) : ∀ (n : Nat) (t0 : Nat) (y2 : Int32) (y3 : Int32) (h : hp_H) (out : hp_H), f_MD_secondIs_L7 n t0 y2 y3 h = some out → ∀ (H : Heap) (locs : List Loc), hp_I G vwCl B s.heap h H locs → ∀ ls : Array Slot, lv_has ls 4 [(0, va_rf (some t0)), (2, .int y2), (3, .int y3)] → W p l e ({ frames := 0, cells := 0, slots := 0, locals := 0 }) s m args below meth c H locs 0 0 (MQ below (hq_Q G vwCl B none out) args s 0 0 (fun q => B ≤ q)) (F0 m 7 ls []) := by
  intro n
  induction n with
  | zero => intro t0 y2 y3 h out hf; simp [f_MD_secondIs_L7] at hf
  | succ n ih =>
    intro t0 y2 y3 h out hf H locs I ls hl
    simp only [f_MD_secondIs_L7] at hf
    refine lv_iload_n C.1.1 C.1.2.1 d_MD_secondIs_7 rfl (lv_at hl 2 rfl) ?_
    refine lv_iload_n C.1.1 C.1.2.1 d_MD_secondIs_8 rfl (lv_at hl 1 rfl) ?_
    refine lv_icmp_ge (tgt := 43) C.1.1 C.1.2.1 d_MD_secondIs_9 (by decide) (fun c3 => ?_) (fun c3 => ?_)
    · rw [if_pos c3] at hf
      cases hf
      exact hq_vret C I (by decide) (by decide) d_MD_secondIs_43
    · rw [if_neg c3] at hf
      refine hq_aload_n C.1.1 C.1.2.1 d_MD_secondIs_12 rfl (lv_at hl 0 rfl) ?_
      replace hf := Option.bind_eq_some_iff.mp hf
      obtain ⟨x4, e5, hf⟩ := hf
      refine hq_getR C I F_MD_90 e5 d_MD_secondIs_13 ?_
      refine hq_aload_n C.1.1 C.1.2.1 d_MD_secondIs_16 rfl (lv_at hl 0 rfl) ?_
      replace hf := Option.bind_eq_some_iff.mp hf
      obtain ⟨x6, e7, hf⟩ := hf
      refine hq_getI C I F_MD_93 e7 d_MD_secondIs_17 ?_
      refine hq_aload_n C.1.1 C.1.2.1 d_MD_secondIs_20 rfl (lv_at hl 0 rfl) ?_
      replace hf := Option.bind_eq_some_iff.mp hf
      obtain ⟨x8, e9, hf⟩ := hf
      refine hq_getR C I F_MD_20 e9 d_MD_secondIs_21 ?_
      refine lv_iload_n C.1.1 C.1.2.1 d_MD_secondIs_24 rfl (lv_at hl 2 rfl) ?_
      replace hf := Option.bind_eq_some_iff.mp hf
      obtain ⟨x10, e11, hf⟩ := hf
      refine hq_iald C I (t := 0) rfl e11 d_MD_secondIs_25 ?_
      replace hf := Option.bind_eq_some_iff.mp hf
      obtain ⟨h12, e13, hf⟩ := hf
      refine hq_iast C I (t := 0) rfl e13 d_MD_secondIs_26 (fun H locs I => ?_)
      refine hq_aload_n C.1.1 C.1.2.1 d_MD_secondIs_27 rfl (lv_at hl 0 rfl) ?_
      refine lv_dup C.1.1 C.1.2.1 d_MD_secondIs_28 (hq_cat _) ?_
      replace hf := Option.bind_eq_some_iff.mp hf
      obtain ⟨x14, e15, hf⟩ := hf
      refine hq_getI C I F_MD_93 e15 d_MD_secondIs_29 ?_
      refine lv_iconst (v := 1) C.1.1 C.1.2.1 d_MD_secondIs_32 (by decide) ?_
      refine lv_iadd C.1.1 C.1.2.1 d_MD_secondIs_33 ?_
      replace hf := Option.bind_eq_some_iff.mp hf
      obtain ⟨h16, e17, hf⟩ := hf
      refine hq_put C I F_MD_93 e17 rfl rfl d_MD_secondIs_34 (fun H locs I => ?_)
      refine lv_iinc (v := (y3 + 1)) (lv' := [(3, .int (y3 + 1)), (0, va_rf (some t0)), (2, .int y2)]) C.1.1 C.1.2.1 d_MD_secondIs_37 hl (k := 2) rfl rfl (by decide) (by first | rfl | simp [hq_cat, hq_catI, hq_catL]) (fun ls hl => ?_)
      refine lv_goto (tgt := 7) C.1.1 C.1.2.1 d_MD_secondIs_40 (by decide) ?_
      refine W.widen (k := 0) (n := 0) (by decide) (by decide) ?_
      exact ih t0 y2 (y3 + 1) h16 _ hf _ _ I ls (lv_sub hl [1, 2, 0] rfl)
set_option maxRecDepth 100000 in
set_option maxHeartbeats 4000000 in
theorem k_MD_secondIs (l : Launch) (G : hp_G) (B : Nat) (h : hp_H) (t0 : Nat) (p1 : Int32) (p2 : Int32) (out : hp_H) (hf : f_MD_secondIs h t0 p1 p2 = some out) : Met l y_MD_secondIs (.code y_MD_secondIs b_MD_secondIs 4 ((Option.none : Option Jvm.ClassFile.FieldType)) :: gt) ({ frames := 0, cells := 0, slots := 0, locals := 0 }) (hq_Pc G vwCl aTs B h [.ref t0, .int p1, .int p2]) (hq_Q G vwCl B none out) 0 0 (fun q => B ≤ q) := by
  refine hq_enter (nL := 4) (by decide +kernel) (Nat.le_of_ble_eq_true rfl) ?_
  intro p e s m args below meth c C I ls hl
  have hl : lv_has ls 4 [(0, va_rf (some t0)), (1, .int p1), (2, .int p2)] := hl
  unfold f_MD_secondIs at hf
  refine hq_aload_n C.1.1 C.1.2.1 d_MD_secondIs_0 rfl (lv_at hl 0 rfl) ?_
  refine lv_iconst (v := 0) C.1.1 C.1.2.1 d_MD_secondIs_1 (by decide) ?_
  replace hf := Option.bind_eq_some_iff.mp hf
  obtain ⟨h1, e2, hf⟩ := hf
  refine hq_put C I F_MD_93 e2 rfl rfl d_MD_secondIs_2 (fun H locs I => ?_)
  refine lv_iload_n C.1.1 C.1.2.1 d_MD_secondIs_5 rfl (lv_at hl 1 rfl) ?_
  refine lv_istore_n (i := 3) (lv' := [(3, .int p1), (0, va_rf (some t0)), (1, .int p1), (2, .int p2)]) C.1.1 C.1.2.1 d_MD_secondIs_6 rfl hl (by decide) (by first | rfl | simp [hq_cat, hq_catI, hq_catL]) (fun ls hl => ?_)
  refine W.widen (k := 0) (n := 0) (by decide) (by decide) ?_
  exact k_MD_secondIs_L7 C FU t0 p2 p1 h1 _ hf _ _ I ls (lv_sub hl [1, 3, 0] rfl)
set_option maxRecDepth 100000 in
set_option maxHeartbeats 4000000 in
theorem k_MD_orderTo (l : Launch) (G : hp_G) (B : Nat) (h : hp_H) (t0 : Nat) (p1 : Int32) (p2 : Int32) (p3 : Int32) (out : Int32 × hp_H) (hf : f_MD_orderTo h t0 p1 p2 p3 = some out) : Met l y_MD_orderTo (.code y_MD_orderTo b_MD_orderTo 4 ((Option.some Jvm.ClassFile.FieldType.int)) :: gt) ({ frames := 4, cells := 0, slots := 0, locals := 102 }) (hq_Pc G vwCl aTs B h [.ref t0, .int p1, .int p2, .int p3]) (hq_Q G vwCl B (some (.int out.1)) out.2) 0 0 (fun q => B ≤ q) := by
  refine hq_enter (nL := 4) (by decide +kernel) (Nat.le_of_ble_eq_true rfl) ?_
  intro p e s m args below meth c C I ls hl
  have hl : lv_has ls 4 [(0, va_rf (some t0)), (1, .int p1), (2, .int p2), (3, .int p3)] := hl
  unfold f_MD_orderTo at hf
  refine hq_aload_n C.1.1 C.1.2.1 d_MD_orderTo_0 rfl (lv_at hl 0 rfl) ?_
  refine lv_iload_n C.1.1 C.1.2.1 d_MD_orderTo_1 rfl (lv_at hl 1 rfl) ?_
  replace hf := Option.bind_eq_some_iff.mp hf
  obtain ⟨b3, e4, hf⟩ := hf
  obtain ⟨e4r, _, e4c⟩ := hp_o_inv e4
  cases e4r
  replace hf := Option.bind_eq_some_iff.mp hf
  obtain ⟨q1, e2, hf⟩ := hf
  refine hq_callW gt_good C I hl.1 (k_MD_firstIs l G B _ t0 p1 q1 e2) M_MD_130 e4c rfl ⟨rfl, rfl⟩ ⟨Nat.le_of_ble_eq_true rfl, Nat.le_of_ble_eq_true rfl⟩ rfl (Nat.le_of_ble_eq_true rfl) d_MD_orderTo_2 ⟨Nat.le_of_ble_eq_true rfl, Nat.le_of_ble_eq_true rfl⟩ (fun H locs I => ?_)
  refine W.widen (k := 0) (n := 0) (by decide) (by decide) ?_
  refine hq_aload_n C.1.1 C.1.2.1 d_MD_orderTo_5 rfl (lv_at hl 0 rfl) ?_
  refine lv_iload_n C.1.1 C.1.2.1 d_MD_orderTo_6 rfl (lv_at hl 2 rfl) ?_
  refine lv_iload_n C.1.1 C.1.2.1 d_MD_orderTo_7 rfl (lv_at hl 3 rfl) ?_
  replace hf := Option.bind_eq_some_iff.mp hf
  obtain ⟨b7, e8, hf⟩ := hf
  obtain ⟨e8r, _, e8c⟩ := hp_o_inv e8
  cases e8r
  replace hf := Option.bind_eq_some_iff.mp hf
  obtain ⟨q5, e6, hf⟩ := hf
  refine hq_callW gt_good C I hl.1 (k_MD_secondIs l G B _ t0 p2 p3 q5 e6) M_MD_134 e8c rfl ⟨rfl, rfl⟩ ⟨Nat.le_of_ble_eq_true rfl, Nat.le_of_ble_eq_true rfl⟩ rfl (Nat.le_of_ble_eq_true rfl) d_MD_orderTo_8 ⟨Nat.le_of_ble_eq_true rfl, Nat.le_of_ble_eq_true rfl⟩ (fun H locs I => ?_)
  refine W.widen (k := 0) (n := 0) (by decide) (by decide) ?_
  refine hq_aload_n C.1.1 C.1.2.1 d_MD_orderTo_11 rfl (lv_at hl 0 rfl) ?_
  replace hf := Option.bind_eq_some_iff.mp hf
  obtain ⟨b11, e12, hf⟩ := hf
  obtain ⟨e12r, _, e12c⟩ := hp_o_inv e12
  cases e12r
  replace hf := Option.bind_eq_some_iff.mp hf
  obtain ⟨q9, e10, hf⟩ := hf
  refine hq_callW gt_good C I hl.1 (k_MD_order l G B _ t0 q9 e10) M_MD_138 e12c rfl ⟨rfl, rfl⟩ ⟨Nat.le_of_ble_eq_true rfl, Nat.le_of_ble_eq_true rfl⟩ rfl (Nat.le_of_ble_eq_true rfl) d_MD_orderTo_12 ⟨Nat.le_of_ble_eq_true rfl, Nat.le_of_ble_eq_true rfl⟩ (fun H locs I => ?_)
  refine W.widen (k := 0) (n := 0) (by decide) (by decide) ?_
  cases hf
  exact hq_iret C I (by decide) (by decide) d_MD_orderTo_15
set_option maxRecDepth 100000 in
set_option maxHeartbeats 4000000 in
theorem k_MD_holds_L113 {p : Program} {l : Launch} {e : Env} {s : State} {m : MethodId} {args : Array Value} {below : List Frame} {meth : Method} {c : Code} {G : hp_G} {B : Nat} (C : hq_C p s m args meth c b_MD_holds 5 ((Option.some Jvm.ClassFile.FieldType.boolean)) "LayeredLauncherModel" "holds" gt G vwCl aTs) : ∀ (t0 : Nat) (y1 : Int32) (y3 : Int32) (h : hp_H) (out : Int32 × hp_H), f_MD_holds_L113 t0 y1 y3 h = some out → ∀ (H : Heap) (locs : List Loc), hp_I G vwCl B s.heap h H locs → ∀ ls : Array Slot, lv_has ls 5 [(0, va_rf (some t0)), (1, .int y1), (3, .int y3)] → W p l e ({ frames := 5, cells := 0, slots := 0, locals := 125 }) s m args below meth c H locs 0 0 (MQ below (hq_Q G vwCl B (some (.int out.1)) out.2) args s 0 0 (fun q => B ≤ q)) (F0 m 113 ls []) := by
  intro t0 y1 y3 h out hf H locs I ls hl
  unfold f_MD_holds_L113 at hf
  refine lv_iload_n C.1.1 C.1.2.1 d_MD_holds_113 rfl (lv_at hl 2 rfl) ?_
  refine hq_aload_n C.1.1 C.1.2.1 d_MD_holds_114 rfl (lv_at hl 0 rfl) ?_
  replace hf := Option.bind_eq_some_iff.mp hf
  obtain ⟨x43, e44, hf⟩ := hf
  refine hq_getI C I F_MD_17 e44 d_MD_holds_115 ?_
  refine lv_iconst (v := 2) C.1.1 C.1.2.1 d_MD_holds_118 (by decide) ?_
  refine lv_isub C.1.1 C.1.2.1 d_MD_holds_119 ?_
  refine lv_icmp_ge (tgt := 167) C.1.1 C.1.2.1 d_MD_holds_120 (by decide) (fun c45 => ?_) (fun c45 => ?_)
  · rw [if_pos c45] at hf
    refine lv_iconst (v := 1) C.1.1 C.1.2.1 d_MD_holds_167 (by decide) ?_
    cases hf
    exact hq_zret C I (hp_z_nar (x := 1) (Or.inr rfl)).1 (by decide) (by decide) d_MD_holds_168
  · rw [if_neg c45] at hf
    refine hq_aload_n C.1.1 C.1.2.1 d_MD_holds_123 rfl (lv_at hl 0 rfl) ?_
    refine lv_iload_n C.1.1 C.1.2.1 d_MD_holds_124 rfl (lv_at hl 1 rfl) ?_
    refine lv_iload_n C.1.1 C.1.2.1 d_MD_holds_125 rfl (lv_at hl 2 rfl) ?_
    refine lv_iconst (v := 1) C.1.1 C.1.2.1 d_MD_holds_126 (by decide) ?_
    refine lv_iadd C.1.1 C.1.2.1 d_MD_holds_127 ?_
    refine hq_aload_n C.1.1 C.1.2.1 d_MD_holds_128 rfl (lv_at hl 0 rfl) ?_
    replace hf := Option.bind_eq_some_iff.mp hf
    obtain ⟨x46, e47, hf⟩ := hf
    refine hq_getI C I F_MD_17 e47 d_MD_holds_129 ?_
    refine lv_iconst (v := 1) C.1.1 C.1.2.1 d_MD_holds_132 (by decide) ?_
    refine lv_isub C.1.1 C.1.2.1 d_MD_holds_133 ?_
    replace hf := Option.bind_eq_some_iff.mp hf
    obtain ⟨b50, e51, hf⟩ := hf
    obtain ⟨e51r, _, e51c⟩ := hp_o_inv e51
    cases e51r
    replace hf := Option.bind_eq_some_iff.mp hf
    obtain ⟨q48, e49, hf⟩ := hf
    refine hq_callW gt_good C I hl.1 (k_MD_orderTo l G B _ t0 y1 (y3 + (1 : Int32)) (x46 - (1 : Int32)) q48 e49) M_MD_142 e51c rfl ⟨rfl, rfl⟩ ⟨Nat.le_of_ble_eq_true rfl, Nat.le_of_ble_eq_true rfl⟩ rfl (Nat.le_of_ble_eq_true rfl) d_MD_holds_134 ⟨Nat.le_of_ble_eq_true rfl, Nat.le_of_ble_eq_true rfl⟩ (fun H locs I => ?_)
    refine W.widen (k := 0) (n := 0) (by decide) (by decide) ?_
    refine lv_istore (i := 4) (lv' := [(4, .int q48.1), (0, va_rf (some t0)), (1, .int y1), (3, .int y3)]) C.1.1 C.1.2.1 d_MD_holds_137 hl (by decide) (by first | rfl | simp [hq_cat, hq_catI, hq_catL]) (fun ls hl => ?_)
    refine lv_iload C.1.1 C.1.2.1 d_MD_holds_139 (lv_at hl 0 rfl) ?_
    refine lv_if_gt (tgt := 165) C.1.1 C.1.2.1 d_MD_holds_141 (by decide) (fun c52 => ?_) (fun c52 => ?_)
    · rw [if_pos c52] at hf
      refine lv_iconst (v := 0) C.1.1 C.1.2.1 d_MD_holds_165 (by decide) ?_
      cases hf
      exact hq_zret C I (hp_z_nar (x := 0) (Or.inl rfl)).1 (by decide) (by decide) d_MD_holds_166
    · rw [if_neg c52] at hf
      refine lv_iload C.1.1 C.1.2.1 d_MD_holds_144 (lv_at hl 0 rfl) ?_
      refine lv_if_ne (tgt := 167) C.1.1 C.1.2.1 d_MD_holds_146 (by decide) (fun c53 => ?_) (fun c53 => ?_)
      · rw [if_neg c53] at hf
        refine lv_iconst (v := 1) C.1.1 C.1.2.1 d_MD_holds_167 (by decide) ?_
        cases hf
        exact hq_zret C I (hp_z_nar (x := 1) (Or.inr rfl)).1 (by decide) (by decide) d_MD_holds_168
      · rw [if_pos c53] at hf
        refine hq_aload_n C.1.1 C.1.2.1 d_MD_holds_149 rfl (lv_at hl 1 rfl) ?_
        replace hf := Option.bind_eq_some_iff.mp hf
        obtain ⟨x54, e55, hf⟩ := hf
        refine hq_getR C I F_MD_20 e55 d_MD_holds_150 ?_
        refine hq_aload_n C.1.1 C.1.2.1 d_MD_holds_153 rfl (lv_at hl 1 rfl) ?_
        replace hf := Option.bind_eq_some_iff.mp hf
        obtain ⟨x56, e57, hf⟩ := hf
        refine hq_getI C I F_MD_17 e57 d_MD_holds_154 ?_
        refine lv_iconst (v := 1) C.1.1 C.1.2.1 d_MD_holds_157 (by decide) ?_
        refine lv_isub C.1.1 C.1.2.1 d_MD_holds_158 ?_
        replace hf := Option.bind_eq_some_iff.mp hf
        obtain ⟨x58, e59, hf⟩ := hf
        refine hq_iald C I (t := 0) rfl e59 d_MD_holds_159 ?_
        refine lv_bipush (v := 41) C.1.1 C.1.2.1 d_MD_holds_160 (by decide) ?_
        refine lv_icmp_ne (tgt := 167) C.1.1 C.1.2.1 d_MD_holds_162 (by decide) (fun c60 => ?_) (fun c60 => ?_)
        · rw [if_neg c60] at hf
          refine lv_iconst (v := 1) C.1.1 C.1.2.1 d_MD_holds_167 (by decide) ?_
          cases hf
          exact hq_zret C I (hp_z_nar (x := 1) (Or.inr rfl)).1 (by decide) (by decide) d_MD_holds_168
        · rw [if_pos c60] at hf
          refine lv_iconst (v := 0) C.1.1 C.1.2.1 d_MD_holds_165 (by decide) ?_
          cases hf
          exact hq_zret C I (hp_z_nar (x := 0) (Or.inl rfl)).1 (by decide) (by decide) d_MD_holds_166
set_option maxRecDepth 100000 in
set_option maxHeartbeats 4000000 in
theorem k_MD_holds (l : Launch) (G : hp_G) (B : Nat) (h : hp_H) (t0 : Nat) (p1 : Int32) (p2 : Int32) (out : Int32 × hp_H) (hf : f_MD_holds h t0 p1 p2 = some out) : Met l y_MD_holds (.code y_MD_holds b_MD_holds 5 ((Option.some Jvm.ClassFile.FieldType.boolean)) :: gt) ({ frames := 5, cells := 0, slots := 0, locals := 125 }) (hq_Pc G vwCl aTs B h [.ref t0, .int p1, .int p2]) (hq_Q G vwCl B (some (.int out.1)) out.2) 0 0 (fun q => B ≤ q) := by
  refine hq_enter (nL := 5) (by decide +kernel) (Nat.le_of_ble_eq_true rfl) ?_
  intro p e s m args below meth c C I ls hl
  have hl : lv_has ls 5 [(0, va_rf (some t0)), (1, .int p1), (2, .int p2)] := hl
  unfold f_MD_holds at hf
  refine hq_aload_n C.1.1 C.1.2.1 d_MD_holds_0 rfl (lv_at hl 0 rfl) ?_
  refine lv_iload_n C.1.1 C.1.2.1 d_MD_holds_1 rfl (lv_at hl 2 rfl) ?_
  refine hq_aload_n C.1.1 C.1.2.1 d_MD_holds_2 rfl (lv_at hl 0 rfl) ?_
  replace hf := Option.bind_eq_some_iff.mp hf
  obtain ⟨x1, e2, hf⟩ := hf
  refine hq_getI C I F_MD_17 e2 d_MD_holds_3 ?_
  replace hf := Option.bind_eq_some_iff.mp hf
  obtain ⟨b5, e6, hf⟩ := hf
  obtain ⟨e6r, _, e6c⟩ := hp_o_inv e6
  cases e6r
  replace hf := Option.bind_eq_some_iff.mp hf
  obtain ⟨q3, e4, hf⟩ := hf
  refine hq_callW gt_good C I hl.1 (k_MD_isVersion l G B _ t0 p2 x1 q3 e4) M_MD_106 e6c rfl ⟨rfl, rfl⟩ ⟨Nat.le_of_ble_eq_true rfl, Nat.le_of_ble_eq_true rfl⟩ rfl (Nat.le_of_ble_eq_true rfl) d_MD_holds_6 ⟨Nat.le_of_ble_eq_true rfl, Nat.le_of_ble_eq_true rfl⟩ (fun H locs I => ?_)
  refine W.widen (k := 0) (n := 0) (by decide) (by decide) ?_
  refine lv_if_eq (tgt := 31) C.1.1 C.1.2.1 d_MD_holds_9 (by decide) (fun c7 => ?_) (fun c7 => ?_)
  · rw [if_pos c7] at hf
    refine hq_aload_n C.1.1 C.1.2.1 d_MD_holds_31 rfl (lv_at hl 0 rfl) ?_
    refine lv_iload_n C.1.1 C.1.2.1 d_MD_holds_32 rfl (lv_at hl 2 rfl) ?_
    refine hq_aload_n C.1.1 C.1.2.1 d_MD_holds_33 rfl (lv_at hl 0 rfl) ?_
    replace hf := Option.bind_eq_some_iff.mp hf
    obtain ⟨x8, e9, hf⟩ := hf
    refine hq_getI C I F_MD_17 e9 d_MD_holds_34 ?_
    replace hf := Option.bind_eq_some_iff.mp hf
    obtain ⟨b12, e13, hf⟩ := hf
    obtain ⟨e13r, _, e13c⟩ := hp_o_inv e13
    cases e13r
    replace hf := Option.bind_eq_some_iff.mp hf
    obtain ⟨q10, e11, hf⟩ := hf
    refine hq_callW gt_good C I hl.1 (k_MD_commaIn l G B _ t0 p2 x8 q10 e11) M_MD_110 e13c rfl ⟨rfl, rfl⟩ ⟨Nat.le_of_ble_eq_true rfl, Nat.le_of_ble_eq_true rfl⟩ rfl (Nat.le_of_ble_eq_true rfl) d_MD_holds_37 ⟨Nat.le_of_ble_eq_true rfl, Nat.le_of_ble_eq_true rfl⟩ (fun H locs I => ?_)
    refine W.widen (k := 0) (n := 0) (by decide) (by decide) ?_
    refine lv_istore_n (i := 3) (lv' := [(3, .int q10.1), (0, va_rf (some t0)), (1, .int p1), (2, .int p2)]) C.1.1 C.1.2.1 d_MD_holds_40 rfl hl (by decide) (by first | rfl | simp [hq_cat, hq_catI, hq_catL]) (fun ls hl => ?_)
    refine lv_iload_n C.1.1 C.1.2.1 d_MD_holds_41 rfl (lv_at hl 0 rfl) ?_
    refine hq_aload_n C.1.1 C.1.2.1 d_MD_holds_42 rfl (lv_at hl 1 rfl) ?_
    replace hf := Option.bind_eq_some_iff.mp hf
    obtain ⟨x14, e15, hf⟩ := hf
    refine hq_getI C I F_MD_17 e15 d_MD_holds_43 ?_
    refine lv_icmp_ne (tgt := 72) C.1.1 C.1.2.1 d_MD_holds_46 (by decide) (fun c16 => ?_) (fun c16 => ?_)
    · rw [if_neg c16] at hf
      refine lv_iload_n C.1.1 C.1.2.1 d_MD_holds_72 rfl (lv_at hl 0 rfl) ?_
      refine lv_iload_n C.1.1 C.1.2.1 d_MD_holds_73 rfl (lv_at hl 3 rfl) ?_
      refine lv_iconst (v := 1) C.1.1 C.1.2.1 d_MD_holds_74 (by decide) ?_
      refine lv_iadd C.1.1 C.1.2.1 d_MD_holds_75 ?_
      refine lv_icmp_le (tgt := 113) C.1.1 C.1.2.1 d_MD_holds_76 (by decide) (fun c17 => ?_) (fun c17 => ?_)
      · rw [if_pos c17] at hf
        refine W.widen (k := 0) (n := 0) (by decide) (by decide) ?_
        exact k_MD_holds_L113 C t0 p1 q10.1 q10.2 _ hf _ _ I ls (lv_sub hl [1, 2, 0] rfl)
      · rw [if_neg c17] at hf
        refine hq_aload_n C.1.1 C.1.2.1 d_MD_holds_79 rfl (lv_at hl 1 rfl) ?_
        refine lv_iload_n C.1.1 C.1.2.1 d_MD_holds_80 rfl (lv_at hl 2 rfl) ?_
        refine lv_iload_n C.1.1 C.1.2.1 d_MD_holds_81 rfl (lv_at hl 3 rfl) ?_
        refine lv_iconst (v := 1) C.1.1 C.1.2.1 d_MD_holds_82 (by decide) ?_
        refine lv_iadd C.1.1 C.1.2.1 d_MD_holds_83 ?_
        refine lv_iload_n C.1.1 C.1.2.1 d_MD_holds_84 rfl (lv_at hl 0 rfl) ?_
        replace hf := Option.bind_eq_some_iff.mp hf
        obtain ⟨b20, e21, hf⟩ := hf
        obtain ⟨e21r, _, e21c⟩ := hp_o_inv e21
        cases e21r
        replace hf := Option.bind_eq_some_iff.mp hf
        obtain ⟨q18, e19, hf⟩ := hf
        refine hq_callW gt_good C I hl.1 (k_MD_orderTo l G B _ t0 p1 (p2 + (1 : Int32)) q10.1 q18 e19) M_MD_142 e21c rfl ⟨rfl, rfl⟩ ⟨Nat.le_of_ble_eq_true rfl, Nat.le_of_ble_eq_true rfl⟩ rfl (Nat.le_of_ble_eq_true rfl) d_MD_holds_85 ⟨Nat.le_of_ble_eq_true rfl, Nat.le_of_ble_eq_true rfl⟩ (fun H locs I => ?_)
        refine W.widen (k := 0) (n := 0) (by decide) (by decide) ?_
        refine lv_istore (i := 4) (lv' := [(4, .int q18.1), (3, .int q10.1), (0, va_rf (some t0)), (1, .int p1), (2, .int p2)]) C.1.1 C.1.2.1 d_MD_holds_88 hl (by decide) (by first | rfl | simp [hq_cat, hq_catI, hq_catL]) (fun ls hl => ?_)
        refine lv_iload C.1.1 C.1.2.1 d_MD_holds_90 (lv_at hl 0 rfl) ?_
        refine lv_if_lt (tgt := 111) C.1.1 C.1.2.1 d_MD_holds_92 (by decide) (fun c22 => ?_) (fun c22 => ?_)
        · rw [if_pos c22] at hf
          refine lv_iconst (v := 0) C.1.1 C.1.2.1 d_MD_holds_111 (by decide) ?_
          cases hf
          exact hq_zret C I (hp_z_nar (x := 0) (Or.inl rfl)).1 (by decide) (by decide) d_MD_holds_112
        · rw [if_neg c22] at hf
          refine lv_iload C.1.1 C.1.2.1 d_MD_holds_95 (lv_at hl 0 rfl) ?_
          refine lv_if_ne (tgt := 113) C.1.1 C.1.2.1 d_MD_holds_97 (by decide) (fun c23 => ?_) (fun c23 => ?_)
          · rw [if_neg c23] at hf
            refine W.widen (k := 0) (n := 0) (by decide) (by decide) ?_
            exact k_MD_holds_L113 C t0 p1 q10.1 q18.2 _ hf _ _ I ls (lv_sub hl [2, 3, 1] rfl)
          · rw [if_pos c23] at hf
            refine hq_aload_n C.1.1 C.1.2.1 d_MD_holds_100 rfl (lv_at hl 2 rfl) ?_
            replace hf := Option.bind_eq_some_iff.mp hf
            obtain ⟨x24, e25, hf⟩ := hf
            refine hq_getR C I F_MD_20 e25 d_MD_holds_101 ?_
            refine lv_iload_n C.1.1 C.1.2.1 d_MD_holds_104 rfl (lv_at hl 4 rfl) ?_
            replace hf := Option.bind_eq_some_iff.mp hf
            obtain ⟨x26, e27, hf⟩ := hf
            refine hq_iald C I (t := 0) rfl e27 d_MD_holds_105 ?_
            refine lv_bipush (v := 40) C.1.1 C.1.2.1 d_MD_holds_106 (by decide) ?_
            refine lv_icmp_ne (tgt := 113) C.1.1 C.1.2.1 d_MD_holds_108 (by decide) (fun c28 => ?_) (fun c28 => ?_)
            · rw [if_neg c28] at hf
              refine W.widen (k := 0) (n := 0) (by decide) (by decide) ?_
              exact k_MD_holds_L113 C t0 p1 q10.1 q18.2 _ hf _ _ I ls (lv_sub hl [2, 3, 1] rfl)
            · rw [if_pos c28] at hf
              refine lv_iconst (v := 0) C.1.1 C.1.2.1 d_MD_holds_111 (by decide) ?_
              cases hf
              exact hq_zret C I (hp_z_nar (x := 0) (Or.inl rfl)).1 (by decide) (by decide) d_MD_holds_112
    · rw [if_pos c16] at hf
      refine hq_aload_n C.1.1 C.1.2.1 d_MD_holds_49 rfl (lv_at hl 1 rfl) ?_
      refine lv_iload_n C.1.1 C.1.2.1 d_MD_holds_50 rfl (lv_at hl 2 rfl) ?_
      refine lv_iload_n C.1.1 C.1.2.1 d_MD_holds_51 rfl (lv_at hl 3 rfl) ?_
      refine lv_iconst (v := 1) C.1.1 C.1.2.1 d_MD_holds_52 (by decide) ?_
      refine lv_iadd C.1.1 C.1.2.1 d_MD_holds_53 ?_
      refine hq_aload_n C.1.1 C.1.2.1 d_MD_holds_54 rfl (lv_at hl 1 rfl) ?_
      replace hf := Option.bind_eq_some_iff.mp hf
      obtain ⟨x29, e30, hf⟩ := hf
      refine hq_getI C I F_MD_17 e30 d_MD_holds_55 ?_
      refine lv_iconst (v := 1) C.1.1 C.1.2.1 d_MD_holds_58 (by decide) ?_
      refine lv_isub C.1.1 C.1.2.1 d_MD_holds_59 ?_
      replace hf := Option.bind_eq_some_iff.mp hf
      obtain ⟨b33, e34, hf⟩ := hf
      obtain ⟨e34r, _, e34c⟩ := hp_o_inv e34
      cases e34r
      replace hf := Option.bind_eq_some_iff.mp hf
      obtain ⟨q31, e32, hf⟩ := hf
      refine hq_callW gt_good C I hl.1 (k_MD_orderTo l G B _ t0 p1 (p2 + (1 : Int32)) (x29 - (1 : Int32)) q31 e32) M_MD_142 e34c rfl ⟨rfl, rfl⟩ ⟨Nat.le_of_ble_eq_true rfl, Nat.le_of_ble_eq_true rfl⟩ rfl (Nat.le_of_ble_eq_true rfl) d_MD_holds_60 ⟨Nat.le_of_ble_eq_true rfl, Nat.le_of_ble_eq_true rfl⟩ (fun H locs I => ?_)
      refine W.widen (k := 0) (n := 0) (by decide) (by decide) ?_
      refine lv_if_ne (tgt := 70) C.1.1 C.1.2.1 d_MD_holds_63 (by decide) (fun c35 => ?_) (fun c35 => ?_)
      · rw [if_neg c35] at hf
        refine lv_iconst (v := 0) C.1.1 C.1.2.1 d_MD_holds_70 (by decide) ?_
        cases hf
        exact hq_zret C I (hp_z_nar (x := 0) (Or.inl rfl)).1 (by decide) (by decide) d_MD_holds_71
      · rw [if_pos c35] at hf
        refine lv_iconst (v := 1) C.1.1 C.1.2.1 d_MD_holds_66 (by decide) ?_
        refine lv_goto (tgt := 71) C.1.1 C.1.2.1 d_MD_holds_67 (by decide) ?_
        cases hf
        exact hq_zret C I (hp_z_nar (x := 1) (Or.inr rfl)).1 (by decide) (by decide) d_MD_holds_71
  · rw [if_neg c7] at hf
    refine hq_aload_n C.1.1 C.1.2.1 d_MD_holds_12 rfl (lv_at hl 0 rfl) ?_
    refine lv_iload_n C.1.1 C.1.2.1 d_MD_holds_13 rfl (lv_at hl 1 rfl) ?_
    refine lv_iload_n C.1.1 C.1.2.1 d_MD_holds_14 rfl (lv_at hl 2 rfl) ?_
    refine hq_aload_n C.1.1 C.1.2.1 d_MD_holds_15 rfl (lv_at hl 0 rfl) ?_
    replace hf := Option.bind_eq_some_iff.mp hf
    obtain ⟨x36, e37, hf⟩ := hf
    refine hq_getI C I F_MD_17 e37 d_MD_holds_16 ?_
    replace hf := Option.bind_eq_some_iff.mp hf
    obtain ⟨b40, e41, hf⟩ := hf
    obtain ⟨e41r, _, e41c⟩ := hp_o_inv e41
    cases e41r
    replace hf := Option.bind_eq_some_iff.mp hf
    obtain ⟨q38, e39, hf⟩ := hf
    refine hq_callW gt_good C I hl.1 (k_MD_orderTo l G B _ t0 p1 p2 x36 q38 e39) M_MD_142 e41c rfl ⟨rfl, rfl⟩ ⟨Nat.le_of_ble_eq_true rfl, Nat.le_of_ble_eq_true rfl⟩ rfl (Nat.le_of_ble_eq_true rfl) d_MD_holds_19 ⟨Nat.le_of_ble_eq_true rfl, Nat.le_of_ble_eq_true rfl⟩ (fun H locs I => ?_)
    refine W.widen (k := 0) (n := 0) (by decide) (by decide) ?_
    refine lv_if_ne (tgt := 29) C.1.1 C.1.2.1 d_MD_holds_22 (by decide) (fun c42 => ?_) (fun c42 => ?_)
    · rw [if_neg c42] at hf
      refine lv_iconst (v := 0) C.1.1 C.1.2.1 d_MD_holds_29 (by decide) ?_
      cases hf
      exact hq_zret C I (hp_z_nar (x := 0) (Or.inl rfl)).1 (by decide) (by decide) d_MD_holds_30
    · rw [if_pos c42] at hf
      refine lv_iconst (v := 1) C.1.1 C.1.2.1 d_MD_holds_25 (by decide) ?_
      refine lv_goto (tgt := 30) C.1.1 C.1.2.1 d_MD_holds_26 (by decide) ?_
      cases hf
      exact hq_zret C I (hp_z_nar (x := 1) (Or.inr rfl)).1 (by decide) (by decide) d_MD_holds_30
set_option maxRecDepth 100000 in
set_option maxHeartbeats 4000000 in
theorem k_MD_hasName_L14 {p : Program} {l : Launch} {e : Env} {s : State} {m : MethodId} {args : Array Value} {below : List Frame} {meth : Method} {c : Code} {G : hp_G} {B : Nat} (C : hq_C p s m args meth c b_MD_hasName 4 ((Option.some Jvm.ClassFile.FieldType.boolean)) "LayeredLauncherModel" "hasName" gt G vwCl aTs) : ∀ (n : Nat) (t0 : Nat) (y1 : Int32) (y2 : Int32) (y3 : Int32) (h : hp_H) (out : Int32 × hp_H), f_MD_hasName_L14 n t0 y1 y2 y3 h = some out → ∀ (H : Heap) (locs : List Loc), hp_I G vwCl B s.heap h H locs → ∀ ls : Array Slot, lv_has ls 4 [(0, va_rf (some t0)), (1, .int y1), (2, .int y2), (3, .int y3)] → W p l e ({ frames := 0, cells := 0, slots := 0, locals := 0 }) s m args below meth c H locs 0 0 (MQ below (hq_Q G vwCl B (some (.int out.1)) out.2) args s 0 0 (fun q => B ≤ q)) (F0 m 14 ls []) := by
  intro n
  induction n with
  | zero => intro t0 y1 y2 y3 h out hf; simp [f_MD_hasName_L14] at hf
  | succ n ih =>
    intro t0 y1 y2 y3 h out hf H locs I ls hl
    simp only [f_MD_hasName_L14] at hf
    refine lv_iload_n C.1.1 C.1.2.1 d_MD_hasName_14 rfl (lv_at hl 3 rfl) ?_
    refine lv_iload_n C.1.1 C.1.2.1 d_MD_hasName_15 rfl (lv_at hl 2 rfl) ?_
    refine lv_icmp_ge (tgt := 47) C.1.1 C.1.2.1 d_MD_hasName_16 (by decide) (fun c6 => ?_) (fun c6 => ?_)
    · rw [if_pos c6] at hf
      refine lv_iconst (v := 1) C.1.1 C.1.2.1 d_MD_hasName_47 (by decide) ?_
      cases hf
      exact hq_zret C I (hp_z_nar (x := 1) (Or.inr rfl)).1 (by decide) (by decide) d_MD_hasName_48
    · rw [if_neg c6] at hf
      refine hq_aload_n C.1.1 C.1.2.1 d_MD_hasName_19 rfl (lv_at hl 0 rfl) ?_
      replace hf := Option.bind_eq_some_iff.mp hf
      obtain ⟨x7, e8, hf⟩ := hf
      refine hq_getR C I F_MD_29 e8 d_MD_hasName_20 ?_
      refine lv_iload_n C.1.1 C.1.2.1 d_MD_hasName_23 rfl (lv_at hl 1 rfl) ?_
      refine lv_bipush (v := 21) C.1.1 C.1.2.1 d_MD_hasName_24 (by decide) ?_
      refine lv_imul C.1.1 C.1.2.1 d_MD_hasName_26 ?_
      refine lv_iload_n C.1.1 C.1.2.1 d_MD_hasName_27 rfl (lv_at hl 3 rfl) ?_
      refine lv_iadd C.1.1 C.1.2.1 d_MD_hasName_28 ?_
      replace hf := Option.bind_eq_some_iff.mp hf
      obtain ⟨x9, e10, hf⟩ := hf
      refine hq_iald C I (t := 0) rfl e10 d_MD_hasName_29 ?_
      refine hq_aload_n C.1.1 C.1.2.1 d_MD_hasName_30 rfl (lv_at hl 0 rfl) ?_
      replace hf := Option.bind_eq_some_iff.mp hf
      obtain ⟨x11, e12, hf⟩ := hf
      refine hq_getR C I F_MD_20 e12 d_MD_hasName_31 ?_
      refine lv_iload_n C.1.1 C.1.2.1 d_MD_hasName_34 rfl (lv_at hl 3 rfl) ?_
      replace hf := Option.bind_eq_some_iff.mp hf
      obtain ⟨x13, e14, hf⟩ := hf
      refine hq_iald C I (t := 0) rfl e14 d_MD_hasName_35 ?_
      refine lv_icmp_eq (tgt := 41) C.1.1 C.1.2.1 d_MD_hasName_36 (by decide) (fun c15 => ?_) (fun c15 => ?_)
      · rw [if_pos c15] at hf
        refine lv_iinc (v := (y3 + 1)) (lv' := [(3, .int (y3 + 1)), (0, va_rf (some t0)), (1, .int y1), (2, .int y2)]) C.1.1 C.1.2.1 d_MD_hasName_41 hl (k := 3) rfl rfl (by decide) (by first | rfl | simp [hq_cat, hq_catI, hq_catL]) (fun ls hl => ?_)
        refine lv_goto (tgt := 14) C.1.1 C.1.2.1 d_MD_hasName_44 (by decide) ?_
        refine W.widen (k := 0) (n := 0) (by decide) (by decide) ?_
        exact ih t0 y1 y2 (y3 + 1) h _ hf _ _ I ls (lv_sub hl [1, 2, 3, 0] rfl)
      · rw [if_neg c15] at hf
        refine lv_iconst (v := 0) C.1.1 C.1.2.1 d_MD_hasName_39 (by decide) ?_
        cases hf
        exact hq_zret C I (hp_z_nar (x := 0) (Or.inl rfl)).1 (by decide) (by decide) d_MD_hasName_40
set_option maxRecDepth 100000 in
set_option maxHeartbeats 4000000 in
theorem k_MD_hasName (l : Launch) (G : hp_G) (B : Nat) (h : hp_H) (t0 : Nat) (p1 : Int32) (p2 : Int32) (out : Int32 × hp_H) (hf : f_MD_hasName h t0 p1 p2 = some out) : Met l y_MD_hasName (.code y_MD_hasName b_MD_hasName 4 ((Option.some Jvm.ClassFile.FieldType.boolean)) :: gt) ({ frames := 0, cells := 0, slots := 0, locals := 0 }) (hq_Pc G vwCl aTs B h [.ref t0, .int p1, .int p2]) (hq_Q G vwCl B (some (.int out.1)) out.2) 0 0 (fun q => B ≤ q) := by
  refine hq_enter (nL := 4) (by decide +kernel) (Nat.le_of_ble_eq_true rfl) ?_
  intro p e s m args below meth c C I ls hl
  have hl : lv_has ls 4 [(0, va_rf (some t0)), (1, .int p1), (2, .int p2)] := hl
  unfold f_MD_hasName at hf
  refine hq_aload_n C.1.1 C.1.2.1 d_MD_hasName_0 rfl (lv_at hl 0 rfl) ?_
  replace hf := Option.bind_eq_some_iff.mp hf
  obtain ⟨x1, e2, hf⟩ := hf
  refine hq_getR C I F_MD_32 e2 d_MD_hasName_1 ?_
  refine lv_iload_n C.1.1 C.1.2.1 d_MD_hasName_4 rfl (lv_at hl 1 rfl) ?_
  replace hf := Option.bind_eq_some_iff.mp hf
  obtain ⟨x3, e4, hf⟩ := hf
  refine hq_iald C I (t := 0) rfl e4 d_MD_hasName_5 ?_
  refine lv_iload_n C.1.1 C.1.2.1 d_MD_hasName_6 rfl (lv_at hl 2 rfl) ?_
  refine lv_icmp_eq (tgt := 12) C.1.1 C.1.2.1 d_MD_hasName_7 (by decide) (fun c5 => ?_) (fun c5 => ?_)
  · rw [if_pos c5] at hf
    refine lv_iconst (v := 0) C.1.1 C.1.2.1 d_MD_hasName_12 (by decide) ?_
    refine lv_istore_n (i := 3) (lv' := [(3, .int (0 : Int32)), (0, va_rf (some t0)), (1, .int p1), (2, .int p2)]) C.1.1 C.1.2.1 d_MD_hasName_13 rfl hl (by decide) (by first | rfl | simp [hq_cat, hq_catI, hq_catL]) (fun ls hl => ?_)
    refine W.widen (k := 0) (n := 0) (by decide) (by decide) ?_
    exact k_MD_hasName_L14 C FU t0 p1 p2 (0 : Int32) h _ hf _ _ I ls (lv_sub hl [1, 2, 3, 0] rfl)
  · rw [if_neg c5] at hf
    refine lv_iconst (v := 0) C.1.1 C.1.2.1 d_MD_hasName_10 (by decide) ?_
    cases hf
    exact hq_zret C I (hp_z_nar (x := 0) (Or.inl rfl)).1 (by decide) (by decide) d_MD_hasName_11
set_option maxRecDepth 100000 in
set_option maxHeartbeats 4000000 in
theorem k_MD_isAbove_L15 {p : Program} {l : Launch} {e : Env} {s : State} {m : MethodId} {args : Array Value} {below : List Frame} {meth : Method} {c : Code} {G : hp_G} {B : Nat} (C : hq_C p s m args meth c b_MD_isAbove 4 ((Option.some Jvm.ClassFile.FieldType.boolean)) "LayeredLauncherModel" "isAbove" gt G vwCl aTs) : ∀ (n : Nat) (t0 : Nat) (y1 : Int32) (y3 : Int32) (h : hp_H) (out : Int32 × hp_H), f_MD_isAbove_L15 n t0 y1 y3 h = some out → ∀ (H : Heap) (locs : List Loc), hp_I G vwCl B s.heap h H locs → ∀ ls : Array Slot, lv_has ls 4 [(0, va_rf (some t0)), (1, .int y1), (3, .int y3)] → W p l e ({ frames := 4, cells := 0, slots := 0, locals := 102 }) s m args below meth c H locs 0 0 (MQ below (hq_Q G vwCl B (some (.int out.1)) out.2) args s 0 0 (fun q => B ≤ q)) (F0 m 15 ls []) := by
  intro n
  induction n with
  | zero => intro t0 y1 y3 h out hf; simp [f_MD_isAbove_L15] at hf
  | succ n ih =>
    intro t0 y1 y3 h out hf H locs I ls hl
    simp only [f_MD_isAbove_L15] at hf
    refine lv_iload_n C.1.1 C.1.2.1 d_MD_isAbove_15 rfl (lv_at hl 2 rfl) ?_
    refine hq_aload_n C.1.1 C.1.2.1 d_MD_isAbove_16 rfl (lv_at hl 0 rfl) ?_
    replace hf := Option.bind_eq_some_iff.mp hf
    obtain ⟨x9, e10, hf⟩ := hf
    refine hq_getI C I F_MD_87 e10 d_MD_isAbove_17 ?_
    refine lv_icmp_ge (tgt := 41) C.1.1 C.1.2.1 d_MD_isAbove_20 (by decide) (fun c11 => ?_) (fun c11 => ?_)
    · rw [if_pos c11] at hf
      refine hq_aload_n C.1.1 C.1.2.1 d_MD_isAbove_41 rfl (lv_at hl 0 rfl) ?_
      refine lv_iload_n C.1.1 C.1.2.1 d_MD_isAbove_42 rfl (lv_at hl 1 rfl) ?_
      replace hf := Option.bind_eq_some_iff.mp hf
      obtain ⟨b14, e15, hf⟩ := hf
      obtain ⟨e15r, _, e15c⟩ := hp_o_inv e15
      cases e15r
      replace hf := Option.bind_eq_some_iff.mp hf
      obtain ⟨q12, e13, hf⟩ := hf
      refine hq_callW gt_good C I hl.1 (k_MD_firstIs l G B _ t0 y1 q12 e13) M_MD_130 e15c rfl ⟨rfl, rfl⟩ ⟨Nat.le_of_ble_eq_true rfl, Nat.le_of_ble_eq_true rfl⟩ rfl (Nat.le_of_ble_eq_true rfl) d_MD_isAbove_43 ⟨Nat.le_of_ble_eq_true rfl, Nat.le_of_ble_eq_true rfl⟩ (fun H locs I => ?_)
      refine W.widen (k := 0) (n := 0) (by decide) (by decide) ?_
      refine hq_aload_n C.1.1 C.1.2.1 d_MD_isAbove_46 rfl (lv_at hl 0 rfl) ?_
      replace hf := Option.bind_eq_some_iff.mp hf
      obtain ⟨b18, e19, hf⟩ := hf
      obtain ⟨e19r, _, e19c⟩ := hp_o_inv e19
      cases e19r
      replace hf := Option.bind_eq_some_iff.mp hf
      obtain ⟨q16, e17, hf⟩ := hf
      refine hq_callW gt_good C I hl.1 (k_MD_order l G B _ t0 q16 e17) M_MD_138 e19c rfl ⟨rfl, rfl⟩ ⟨Nat.le_of_ble_eq_true rfl, Nat.le_of_ble_eq_true rfl⟩ rfl (Nat.le_of_ble_eq_true rfl) d_MD_isAbove_47 ⟨Nat.le_of_ble_eq_true rfl, Nat.le_of_ble_eq_true rfl⟩ (fun H locs I => ?_)
      refine W.widen (k := 0) (n := 0) (by decide) (by decide) ?_
      refine lv_if_le (tgt := 57) C.1.1 C.1.2.1 d_MD_isAbove_50 (by decide) (fun c20 => ?_) (fun c20 => ?_)
      · rw [if_pos c20] at hf
        refine lv_iconst (v := 0) C.1.1 C.1.2.1 d_MD_isAbove_57 (by decide) ?_
        cases hf
        exact hq_zret C I (hp_z_nar (x := 0) (Or.inl rfl)).1 (by decide) (by decide) d_MD_isAbove_58
      · rw [if_neg c20] at hf
        refine lv_iconst (v := 1) C.1.1 C.1.2.1 d_MD_isAbove_53 (by decide) ?_
        refine lv_goto (tgt := 58) C.1.1 C.1.2.1 d_MD_isAbove_54 (by decide) ?_
        cases hf
        exact hq_zret C I (hp_z_nar (x := 1) (Or.inr rfl)).1 (by decide) (by decide) d_MD_isAbove_58
    · rw [if_neg c11] at hf
      refine hq_aload_n C.1.1 C.1.2.1 d_MD_isAbove_23 rfl (lv_at hl 0 rfl) ?_
      replace hf := Option.bind_eq_some_iff.mp hf
      obtain ⟨x21, e22, hf⟩ := hf
      refine hq_getR C I F_MD_90 e22 d_MD_isAbove_24 ?_
      refine lv_iload_n C.1.1 C.1.2.1 d_MD_isAbove_27 rfl (lv_at hl 2 rfl) ?_
      refine hq_aload_n C.1.1 C.1.2.1 d_MD_isAbove_28 rfl (lv_at hl 0 rfl) ?_
      replace hf := Option.bind_eq_some_iff.mp hf
      obtain ⟨x23, e24, hf⟩ := hf
      refine hq_getR C I F_MD_84 e24 d_MD_isAbove_29 ?_
      refine lv_iload_n C.1.1 C.1.2.1 d_MD_isAbove_32 rfl (lv_at hl 2 rfl) ?_
      replace hf := Option.bind_eq_some_iff.mp hf
      obtain ⟨x25, e26, hf⟩ := hf
      refine hq_iald C I (t := 0) rfl e26 d_MD_isAbove_33 ?_
      replace hf := Option.bind_eq_some_iff.mp hf
      obtain ⟨h27, e28, hf⟩ := hf
      refine hq_iast C I (t := 0) rfl e28 d_MD_isAbove_34 (fun H locs I => ?_)
      refine lv_iinc (v := (y3 + 1)) (lv' := [(3, .int (y3 + 1)), (0, va_rf (some t0)), (1, .int y1)]) C.1.1 C.1.2.1 d_MD_isAbove_35 hl (k := 2) rfl rfl (by decide) (by first | rfl | simp [hq_cat, hq_catI, hq_catL]) (fun ls hl => ?_)
      refine lv_goto (tgt := 15) C.1.1 C.1.2.1 d_MD_isAbove_38 (by decide) ?_
      refine W.widen (k := 0) (n := 0) (by decide) (by decide) ?_
      exact ih t0 y1 (y3 + 1) h27 _ hf _ _ I ls (lv_sub hl [1, 2, 0] rfl)
set_option maxRecDepth 100000 in
set_option maxHeartbeats 4000000 in
theorem k_MD_isAbove (l : Launch) (G : hp_G) (B : Nat) (h : hp_H) (t0 : Nat) (p1 : Int32) (p2 : Int32) (out : Int32 × hp_H) (hf : f_MD_isAbove h t0 p1 p2 = some out) : Met l y_MD_isAbove (.code y_MD_isAbove b_MD_isAbove 4 ((Option.some Jvm.ClassFile.FieldType.boolean)) :: gt) ({ frames := 4, cells := 0, slots := 0, locals := 102 }) (hq_Pc G vwCl aTs B h [.ref t0, .int p1, .int p2]) (hq_Q G vwCl B (some (.int out.1)) out.2) 0 0 (fun q => B ≤ q) := by
  refine hq_enter (nL := 4) (by decide +kernel) (Nat.le_of_ble_eq_true rfl) ?_
  intro p e s m args below meth c C I ls hl
  have hl : lv_has ls 4 [(0, va_rf (some t0)), (1, .int p1), (2, .int p2)] := hl
  unfold f_MD_isAbove at hf
  refine hq_aload_n C.1.1 C.1.2.1 d_MD_isAbove_0 rfl (lv_at hl 0 rfl) ?_
  refine lv_iload_n C.1.1 C.1.2.1 d_MD_isAbove_1 rfl (lv_at hl 2 rfl) ?_
  replace hf := Option.bind_eq_some_iff.mp hf
  obtain ⟨b3, e4, hf⟩ := hf
  obtain ⟨e4r, _, e4c⟩ := hp_o_inv e4
  cases e4r
  replace hf := Option.bind_eq_some_iff.mp hf
  obtain ⟨q1, e2, hf⟩ := hf
  refine hq_callW gt_good C I hl.1 (k_MD_firstIs l G B _ t0 p2 q1 e2) M_MD_130 e4c rfl ⟨rfl, rfl⟩ ⟨Nat.le_of_ble_eq_true rfl, Nat.le_of_ble_eq_true rfl⟩ rfl (Nat.le_of_ble_eq_true rfl) d_MD_isAbove_2 ⟨Nat.le_of_ble_eq_true rfl, Nat.le_of_ble_eq_true rfl⟩ (fun H locs I => ?_)
  refine W.widen (k := 0) (n := 0) (by decide) (by decide) ?_
  refine hq_aload_n C.1.1 C.1.2.1 d_MD_isAbove_5 rfl (lv_at hl 0 rfl) ?_
  refine hq_aload_n C.1.1 C.1.2.1 d_MD_isAbove_6 rfl (lv_at hl 0 rfl) ?_
  replace hf := Option.bind_eq_some_iff.mp hf
  obtain ⟨x5, e6, hf⟩ := hf
  refine hq_getI C I F_MD_87 e6 d_MD_isAbove_7 ?_
  replace hf := Option.bind_eq_some_iff.mp hf
  obtain ⟨h7, e8, hf⟩ := hf
  refine hq_put C I F_MD_93 e8 rfl rfl d_MD_isAbove_10 (fun H locs I => ?_)
  refine lv_iconst (v := 0) C.1.1 C.1.2.1 d_MD_isAbove_13 (by decide) ?_
  refine lv_istore_n (i := 3) (lv' := [(3, .int (0 : Int32)), (0, va_rf (some t0)), (1, .int p1), (2, .int p2)]) C.1.1 C.1.2.1 d_MD_isAbove_14 rfl hl (by decide) (by first | rfl | simp [hq_cat, hq_catI, hq_catL]) (fun ls hl => ?_)
  refine W.widen (k := 0) (n := 0) (by decide) (by decide) ?_
  exact k_MD_isAbove_L15 C FU t0 p1 (0 : Int32) h7 _ hf _ _ I ls (lv_sub hl [1, 2, 0] rfl)
set_option maxRecDepth 100000 in
set_option maxHeartbeats 4000000 in
theorem k_MD_pick_L9 {p : Program} {l : Launch} {e : Env} {s : State} {m : MethodId} {args : Array Value} {below : List Frame} {meth : Method} {c : Code} {G : hp_G} {B : Nat} (C : hq_C p s m args meth c b_MD_pick 4 ((Option.some Jvm.ClassFile.FieldType.int)) "LayeredLauncherModel" "pick" gt G vwCl aTs) : ∀ (n : Nat) (t0 : Nat) (y1 : Int32) (y2 : Int32) (y3 : Int32) (h : hp_H) (out : Int32 × hp_H), f_MD_pick_L9 n t0 y1 y2 y3 h = some out → ∀ (H : Heap) (locs : List Loc), hp_I G vwCl B s.heap h H locs → ∀ ls : Array Slot, lv_has ls 4 [(0, va_rf (some t0)), (1, .int y1), (2, .int y2), (3, .int y3)] → W p l e ({ frames := 6, cells := 0, slots := 0, locals := 149 }) s m args below meth c H locs 0 0 (MQ below (hq_Q G vwCl B (some (.int out.1)) out.2) args s 0 0 (fun q => B ≤ q)) (F0 m 9 ls []) := by
  intro n
  induction n with
  | zero => intro t0 y1 y2 y3 h out hf; simp [f_MD_pick_L9] at hf
  | succ n ih =>
    intro t0 y1 y2 y3 h out hf H locs I ls hl
    simp only [f_MD_pick_L9] at hf
    refine lv_iload_n C.1.1 C.1.2.1 d_MD_pick_9 rfl (lv_at hl 3 rfl) ?_
    refine hq_aload_n C.1.1 C.1.2.1 d_MD_pick_10 rfl (lv_at hl 0 rfl) ?_
    replace hf := Option.bind_eq_some_iff.mp hf
    obtain ⟨x5, e6, hf⟩ := hf
    refine hq_getI C I F_MD_23 e6 d_MD_pick_11 ?_
    refine lv_icmp_ge (tgt := 70) C.1.1 C.1.2.1 d_MD_pick_14 (by decide) (fun c7 => ?_) (fun c7 => ?_)
    · rw [if_pos c7] at hf
      refine lv_iload_n C.1.1 C.1.2.1 d_MD_pick_70 rfl (lv_at hl 2 rfl) ?_
      cases hf
      exact hq_iret C I (by decide) (by decide) d_MD_pick_71
    · rw [if_neg c7] at hf
      refine hq_aload_n C.1.1 C.1.2.1 d_MD_pick_17 rfl (lv_at hl 0 rfl) ?_
      replace hf := Option.bind_eq_some_iff.mp hf
      obtain ⟨x8, e9, hf⟩ := hf
      refine hq_getR C I F_MD_35 e9 d_MD_pick_18 ?_
      refine lv_iload_n C.1.1 C.1.2.1 d_MD_pick_21 rfl (lv_at hl 3 rfl) ?_
      replace hf := Option.bind_eq_some_iff.mp hf
      obtain ⟨x10, e11, hf⟩ := hf
      refine hq_zald C I (t := 3) rfl e11 d_MD_pick_22 ?_
      refine lv_if_ne (tgt := 64) C.1.1 C.1.2.1 d_MD_pick_23 (by decide) (fun c12 => ?_) (fun c12 => ?_)
      · rw [if_neg c12] at hf
        refine lv_iinc (v := (y3 + 1)) (lv' := [(3, .int (y3 + 1)), (0, va_rf (some t0)), (1, .int y1), (2, .int y2)]) C.1.1 C.1.2.1 d_MD_pick_64 hl (k := 3) rfl rfl (by decide) (by first | rfl | simp [hq_cat, hq_catI, hq_catL]) (fun ls hl => ?_)
        refine lv_goto (tgt := 9) C.1.1 C.1.2.1 d_MD_pick_67 (by decide) ?_
        refine W.widen (k := 0) (n := 0) (by decide) (by decide) ?_
        exact ih t0 y1 y2 (y3 + 1) h _ hf _ _ I ls (lv_sub hl [1, 2, 3, 0] rfl)
      · rw [if_pos c12] at hf
        refine hq_aload_n C.1.1 C.1.2.1 d_MD_pick_26 rfl (lv_at hl 0 rfl) ?_
        refine lv_iload_n C.1.1 C.1.2.1 d_MD_pick_27 rfl (lv_at hl 3 rfl) ?_
        refine lv_iload_n C.1.1 C.1.2.1 d_MD_pick_28 rfl (lv_at hl 1 rfl) ?_
        replace hf := Option.bind_eq_some_iff.mp hf
        obtain ⟨b15, e16, hf⟩ := hf
        obtain ⟨e16r, _, e16c⟩ := hp_o_inv e16
        cases e16r
        replace hf := Option.bind_eq_some_iff.mp hf
        obtain ⟨q13, e14, hf⟩ := hf
        refine hq_callW gt_good C I hl.1 (k_MD_hasName l G B _ t0 y3 y1 q13 e14) M_MD_149 e16c rfl ⟨rfl, rfl⟩ ⟨Nat.le_of_ble_eq_true rfl, Nat.le_of_ble_eq_true rfl⟩ rfl (Nat.le_of_ble_eq_true rfl) d_MD_pick_29 ⟨Nat.le_of_ble_eq_true rfl, Nat.le_of_ble_eq_true rfl⟩ (fun H locs I => ?_)
        refine W.widen (k := 0) (n := 0) (by decide) (by decide) ?_
        refine lv_if_eq (tgt := 64) C.1.1 C.1.2.1 d_MD_pick_32 (by decide) (fun c17 => ?_) (fun c17 => ?_)
        · rw [if_pos c17] at hf
          refine lv_iinc (v := (y3 + 1)) (lv' := [(3, .int (y3 + 1)), (0, va_rf (some t0)), (1, .int y1), (2, .int y2)]) C.1.1 C.1.2.1 d_MD_pick_64 hl (k := 3) rfl rfl (by decide) (by first | rfl | simp [hq_cat, hq_catI, hq_catL]) (fun ls hl => ?_)
          refine lv_goto (tgt := 9) C.1.1 C.1.2.1 d_MD_pick_67 (by decide) ?_
          refine W.widen (k := 0) (n := 0) (by decide) (by decide) ?_
          exact ih t0 y1 y2 (y3 + 1) q13.2 _ hf _ _ I ls (lv_sub hl [1, 2, 3, 0] rfl)
        · rw [if_neg c17] at hf
          refine hq_aload_n C.1.1 C.1.2.1 d_MD_pick_35 rfl (lv_at hl 0 rfl) ?_
          refine lv_iload_n C.1.1 C.1.2.1 d_MD_pick_36 rfl (lv_at hl 3 rfl) ?_
          refine lv_iload_n C.1.1 C.1.2.1 d_MD_pick_37 rfl (lv_at hl 1 rfl) ?_
          refine lv_iconst (v := 1) C.1.1 C.1.2.1 d_MD_pick_38 (by decide) ?_
          refine lv_iadd C.1.1 C.1.2.1 d_MD_pick_39 ?_
          replace hf := Option.bind_eq_some_iff.mp hf
          obtain ⟨b20, e21, hf⟩ := hf
          obtain ⟨e21r, _, e21c⟩ := hp_o_inv e21
          cases e21r
          replace hf := Option.bind_eq_some_iff.mp hf
          obtain ⟨q18, e19, hf⟩ := hf
          refine hq_callW gt_good C I hl.1 (k_MD_holds l G B _ t0 y3 (y1 + (1 : Int32)) q18 e19) M_MD_152 e21c rfl ⟨rfl, rfl⟩ ⟨Nat.le_of_ble_eq_true rfl, Nat.le_of_ble_eq_true rfl⟩ rfl (Nat.le_of_ble_eq_true rfl) d_MD_pick_40 ⟨Nat.le_of_ble_eq_true rfl, Nat.le_of_ble_eq_true rfl⟩ (fun H locs I => ?_)
          refine W.widen (k := 0) (n := 0) (by decide) (by decide) ?_
          refine lv_if_ne (tgt := 49) C.1.1 C.1.2.1 d_MD_pick_43 (by decide) (fun c22 => ?_) (fun c22 => ?_)
          · rw [if_neg c22] at hf
            refine lv_iload_n C.1.1 C.1.2.1 d_MD_pick_49 rfl (lv_at hl 2 rfl) ?_
            refine lv_if_lt (tgt := 62) C.1.1 C.1.2.1 d_MD_pick_50 (by decide) (fun c23 => ?_) (fun c23 => ?_)
            · rw [if_pos c23] at hf
              refine lv_iload_n C.1.1 C.1.2.1 d_MD_pick_62 rfl (lv_at hl 3 rfl) ?_
              refine lv_istore_n (i := 2) (lv' := [(2, .int y3), (0, va_rf (some t0)), (1, .int y1), (3, .int y3)]) C.1.1 C.1.2.1 d_MD_pick_63 rfl hl (by decide) (by first | rfl | simp [hq_cat, hq_catI, hq_catL]) (fun ls hl => ?_)
              refine lv_iinc (v := (y3 + 1)) (lv' := [(3, .int (y3 + 1)), (2, .int y3), (0, va_rf (some t0)), (1, .int y1)]) C.1.1 C.1.2.1 d_MD_pick_64 hl (k := 3) rfl rfl (by decide) (by first | rfl | simp [hq_cat, hq_catI, hq_catL]) (fun ls hl => ?_)
              refine lv_goto (tgt := 9) C.1.1 C.1.2.1 d_MD_pick_67 (by decide) ?_
              refine W.widen (k := 0) (n := 0) (by decide) (by decide) ?_
              exact ih t0 y1 y3 (y3 + 1) q18.2 _ hf _ _ I ls (lv_sub hl [2, 3, 1, 0] rfl)
            · rw [if_neg c23] at hf
              refine hq_aload_n C.1.1 C.1.2.1 d_MD_pick_53 rfl (lv_at hl 0 rfl) ?_
              refine lv_iload_n C.1.1 C.1.2.1 d_MD_pick_54 rfl (lv_at hl 3 rfl) ?_
              refine lv_iload_n C.1.1 C.1.2.1 d_MD_pick_55 rfl (lv_at hl 2 rfl) ?_
              replace hf := Option.bind_eq_some_iff.mp hf
              obtain ⟨b26, e27, hf⟩ := hf
              obtain ⟨e27r, _, e27c⟩ := hp_o_inv e27
              cases e27r
              replace hf := Option.bind_eq_some_iff.mp hf
              obtain ⟨q24, e25, hf⟩ := hf
              refine hq_callW gt_good C I hl.1 (k_MD_isAbove l G B _ t0 y3 y2 q24 e25) M_MD_155 e27c rfl ⟨rfl, rfl⟩ ⟨Nat.le_of_ble_eq_true rfl, Nat.le_of_ble_eq_true rfl⟩ rfl (Nat.le_of_ble_eq_true rfl) d_MD_pick_56 ⟨Nat.le_of_ble_eq_true rfl, Nat.le_of_ble_eq_true rfl⟩ (fun H locs I => ?_)
              refine W.widen (k := 0) (n := 0) (by decide) (by decide) ?_
              refine lv_if_eq (tgt := 64) C.1.1 C.1.2.1 d_MD_pick_59 (by decide) (fun c28 => ?_) (fun c28 => ?_)
              · rw [if_pos c28] at hf
                refine lv_iinc (v := (y3 + 1)) (lv' := [(3, .int (y3 + 1)), (0, va_rf (some t0)), (1, .int y1), (2, .int y2)]) C.1.1 C.1.2.1 d_MD_pick_64 hl (k := 3) rfl rfl (by decide) (by first | rfl | simp [hq_cat, hq_catI, hq_catL]) (fun ls hl => ?_)
                refine lv_goto (tgt := 9) C.1.1 C.1.2.1 d_MD_pick_67 (by decide) ?_
                refine W.widen (k := 0) (n := 0) (by decide) (by decide) ?_
                exact ih t0 y1 y2 (y3 + 1) q24.2 _ hf _ _ I ls (lv_sub hl [1, 2, 3, 0] rfl)
              · rw [if_neg c28] at hf
                refine lv_iload_n C.1.1 C.1.2.1 d_MD_pick_62 rfl (lv_at hl 3 rfl) ?_
                refine lv_istore_n (i := 2) (lv' := [(2, .int y3), (0, va_rf (some t0)), (1, .int y1), (3, .int y3)]) C.1.1 C.1.2.1 d_MD_pick_63 rfl hl (by decide) (by first | rfl | simp [hq_cat, hq_catI, hq_catL]) (fun ls hl => ?_)
                refine lv_iinc (v := (y3 + 1)) (lv' := [(3, .int (y3 + 1)), (2, .int y3), (0, va_rf (some t0)), (1, .int y1)]) C.1.1 C.1.2.1 d_MD_pick_64 hl (k := 3) rfl rfl (by decide) (by first | rfl | simp [hq_cat, hq_catI, hq_catL]) (fun ls hl => ?_)
                refine lv_goto (tgt := 9) C.1.1 C.1.2.1 d_MD_pick_67 (by decide) ?_
                refine W.widen (k := 0) (n := 0) (by decide) (by decide) ?_
                exact ih t0 y1 y3 (y3 + 1) q24.2 _ hf _ _ I ls (lv_sub hl [2, 3, 1, 0] rfl)
          · rw [if_pos c22] at hf
            refine lv_goto (tgt := 64) C.1.1 C.1.2.1 d_MD_pick_46 (by decide) ?_
            refine lv_iinc (v := (y3 + 1)) (lv' := [(3, .int (y3 + 1)), (0, va_rf (some t0)), (1, .int y1), (2, .int y2)]) C.1.1 C.1.2.1 d_MD_pick_64 hl (k := 3) rfl rfl (by decide) (by first | rfl | simp [hq_cat, hq_catI, hq_catL]) (fun ls hl => ?_)
            refine lv_goto (tgt := 9) C.1.1 C.1.2.1 d_MD_pick_67 (by decide) ?_
            refine W.widen (k := 0) (n := 0) (by decide) (by decide) ?_
            exact ih t0 y1 y2 (y3 + 1) q18.2 _ hf _ _ I ls (lv_sub hl [1, 2, 3, 0] rfl)
set_option maxRecDepth 100000 in
set_option maxHeartbeats 4000000 in
theorem k_MD_pick (l : Launch) (G : hp_G) (B : Nat) (h : hp_H) (t0 : Nat) (out : Int32 × hp_H) (hf : f_MD_pick h t0 = some out) : Met l y_MD_pick (.code y_MD_pick b_MD_pick 4 ((Option.some Jvm.ClassFile.FieldType.int)) :: gt) ({ frames := 6, cells := 0, slots := 0, locals := 149 }) (hq_Pc G vwCl aTs B h [.ref t0]) (hq_Q G vwCl B (some (.int out.1)) out.2) 0 0 (fun q => B ≤ q) := by
  refine hq_enter (nL := 4) (by decide +kernel) (Nat.le_of_ble_eq_true rfl) ?_
  intro p e s m args below meth c C I ls hl
  have hl : lv_has ls 4 [(0, va_rf (some t0))] := hl
  unfold f_MD_pick at hf
  refine hq_aload_n C.1.1 C.1.2.1 d_MD_pick_0 rfl (lv_at hl 0 rfl) ?_
  replace hf := Option.bind_eq_some_iff.mp hf
  obtain ⟨b3, e4, hf⟩ := hf
  obtain ⟨e4r, _, e4c⟩ := hp_o_inv e4
  cases e4r
  replace hf := Option.bind_eq_some_iff.mp hf
  obtain ⟨q1, e2, hf⟩ := hf
  refine hq_callW gt_good C I hl.1 (k_MD_colonAt l G B _ t0 q1 e2) M_MD_146 e4c rfl ⟨rfl, rfl⟩ ⟨Nat.le_of_ble_eq_true rfl, Nat.le_of_ble_eq_true rfl⟩ rfl (Nat.le_of_ble_eq_true rfl) d_MD_pick_1 ⟨Nat.le_of_ble_eq_true rfl, Nat.le_of_ble_eq_true rfl⟩ (fun H locs I => ?_)
  refine W.widen (k := 0) (n := 0) (by decide) (by decide) ?_
  refine lv_istore_n (i := 1) (lv' := [(1, .int q1.1), (0, va_rf (some t0))]) C.1.1 C.1.2.1 d_MD_pick_4 rfl hl (by decide) (by first | rfl | simp [hq_cat, hq_catI, hq_catL]) (fun ls hl => ?_)
  refine lv_iconst (v := -1) C.1.1 C.1.2.1 d_MD_pick_5 (by decide) ?_
  refine lv_istore_n (i := 2) (lv' := [(2, .int (-1 : Int32)), (1, .int q1.1), (0, va_rf (some t0))]) C.1.1 C.1.2.1 d_MD_pick_6 rfl hl (by decide) (by first | rfl | simp [hq_cat, hq_catI, hq_catL]) (fun ls hl => ?_)
  refine lv_iconst (v := 0) C.1.1 C.1.2.1 d_MD_pick_7 (by decide) ?_
  refine lv_istore_n (i := 3) (lv' := [(3, .int (0 : Int32)), (2, .int (-1 : Int32)), (1, .int q1.1), (0, va_rf (some t0))]) C.1.1 C.1.2.1 d_MD_pick_8 rfl hl (by decide) (by first | rfl | simp [hq_cat, hq_catI, hq_catL]) (fun ls hl => ?_)
  refine W.widen (k := 0) (n := 0) (by decide) (by decide) ?_
  exact k_MD_pick_L9 C FU t0 q1.1 (-1 : Int32) (0 : Int32) q1.2 _ hf _ _ I ls (lv_sub hl [3, 2, 1, 0] rfl)
set_option maxRecDepth 100000 in
set_option maxHeartbeats 4000000 in
theorem k_MD_publish_L108 {p : Program} {l : Launch} {e : Env} {s : State} {m : MethodId} {args : Array Value} {below : List Frame} {meth : Method} {c : Code} {G : hp_G} {B : Nat} (C : hq_C p s m args meth c b_MD_publish 3 ((Option.some Jvm.ClassFile.FieldType.int)) "LayeredLauncherModel" "publish" gt G vwCl aTs) : ∀ (n : Nat) (t0 : Nat) (y1 : Int32) (y2 : Int32) (h : hp_H) (out : Int32 × hp_H), f_MD_publish_L108 n t0 y1 y2 h = some out → ∀ (H : Heap) (locs : List Loc), hp_I G vwCl B s.heap h H locs → ∀ ls : Array Slot, lv_has ls 3 [(0, va_rf (some t0)), (1, .int y1), (2, .int y2)] → W p l e ({ frames := 5, cells := 0, slots := 0, locals := 125 }) s m args below meth c H locs 0 0 (MQ below (hq_Q G vwCl B (some (.int out.1)) out.2) args s 0 0 (fun q => B ≤ q)) (F0 m 108 ls []) := by
  intro n
  induction n with
  | zero => intro t0 y1 y2 h out hf; simp [f_MD_publish_L108] at hf
  | succ n ih =>
    intro t0 y1 y2 h out hf H locs I ls hl
    simp only [f_MD_publish_L108] at hf
    refine lv_iload_n C.1.1 C.1.2.1 d_MD_publish_108 rfl (lv_at hl 2 rfl) ?_
    refine hq_aload_n C.1.1 C.1.2.1 d_MD_publish_109 rfl (lv_at hl 0 rfl) ?_
    replace hf := Option.bind_eq_some_iff.mp hf
    obtain ⟨x47, e48, hf⟩ := hf
    refine hq_getI C I F_MD_17 e48 d_MD_publish_110 ?_
    refine lv_icmp_ge (tgt := 142) C.1.1 C.1.2.1 d_MD_publish_113 (by decide) (fun c49 => ?_) (fun c49 => ?_)
    · rw [if_pos c49] at hf
      refine hq_aload_n C.1.1 C.1.2.1 d_MD_publish_142 rfl (lv_at hl 0 rfl) ?_
      replace hf := Option.bind_eq_some_iff.mp hf
      obtain ⟨x50, e51, hf⟩ := hf
      refine hq_getR C I F_MD_26 e51 d_MD_publish_143 ?_
      refine hq_aload_n C.1.1 C.1.2.1 d_MD_publish_146 rfl (lv_at hl 0 rfl) ?_
      replace hf := Option.bind_eq_some_iff.mp hf
      obtain ⟨x52, e53, hf⟩ := hf
      refine hq_getI C I F_MD_23 e53 d_MD_publish_147 ?_
      refine hq_aload_n C.1.1 C.1.2.1 d_MD_publish_150 rfl (lv_at hl 0 rfl) ?_
      replace hf := Option.bind_eq_some_iff.mp hf
      obtain ⟨x54, e55, hf⟩ := hf
      refine hq_getI C I F_MD_17 e55 d_MD_publish_151 ?_
      replace hf := Option.bind_eq_some_iff.mp hf
      obtain ⟨h56, e57, hf⟩ := hf
      refine hq_iast C I (t := 0) rfl e57 d_MD_publish_154 (fun H locs I => ?_)
      refine hq_aload_n C.1.1 C.1.2.1 d_MD_publish_155 rfl (lv_at hl 0 rfl) ?_
      replace hf := Option.bind_eq_some_iff.mp hf
      obtain ⟨x58, e59, hf⟩ := hf
      refine hq_getR C I F_MD_32 e59 d_MD_publish_156 ?_
      refine hq_aload_n C.1.1 C.1.2.1 d_MD_publish_159 rfl (lv_at hl 0 rfl) ?_
      replace hf := Option.bind_eq_some_iff.mp hf
      obtain ⟨x60, e61, hf⟩ := hf
      refine hq_getI C I F_MD_23 e61 d_MD_publish_160 ?_
      refine lv_iload_n C.1.1 C.1.2.1 d_MD_publish_163 rfl (lv_at hl 1 rfl) ?_
      replace hf := Option.bind_eq_some_iff.mp hf
      obtain ⟨h62, e63, hf⟩ := hf
      refine hq_iast C I (t := 0) rfl e63 d_MD_publish_164 (fun H locs I => ?_)
      refine hq_aload_n C.1.1 C.1.2.1 d_MD_publish_165 rfl (lv_at hl 0 rfl) ?_
      refine lv_dup C.1.1 C.1.2.1 d_MD_publish_166 (hq_cat _) ?_
      replace hf := Option.bind_eq_some_iff.mp hf
      obtain ⟨x64, e65, hf⟩ := hf
      refine hq_getI C I F_MD_23 e65 d_MD_publish_167 ?_
      refine lv_iconst (v := 1) C.1.1 C.1.2.1 d_MD_publish_170 (by decide) ?_
      refine lv_iadd C.1.1 C.1.2.1 d_MD_publish_171 ?_
      replace hf := Option.bind_eq_some_iff.mp hf
      obtain ⟨h66, e67, hf⟩ := hf
      refine hq_put C I F_MD_23 e67 rfl rfl d_MD_publish_172 (fun H locs I => ?_)
      refine hq_aload_n C.1.1 C.1.2.1 d_MD_publish_175 rfl (lv_at hl 0 rfl) ?_
      replace hf := Option.bind_eq_some_iff.mp hf
      obtain ⟨x68, e69, hf⟩ := hf
      refine hq_getI C I F_MD_23 e69 d_MD_publish_176 ?_
      refine lv_iconst (v := 1) C.1.1 C.1.2.1 d_MD_publish_179 (by decide) ?_
      refine lv_isub C.1.1 C.1.2.1 d_MD_publish_180 ?_
      cases hf
      exact hq_iret C I (by decide) (by decide) d_MD_publish_181
    · rw [if_neg c49] at hf
      refine hq_aload_n C.1.1 C.1.2.1 d_MD_publish_116 rfl (lv_at hl 0 rfl) ?_
      replace hf := Option.bind_eq_some_iff.mp hf
      obtain ⟨x70, e71, hf⟩ := hf
      refine hq_getR C I F_MD_29 e71 d_MD_publish_117 ?_
      refine hq_aload_n C.1.1 C.1.2.1 d_MD_publish_120 rfl (lv_at hl 0 rfl) ?_
      replace hf := Option.bind_eq_some_iff.mp hf
      obtain ⟨x72, e73, hf⟩ := hf
      refine hq_getI C I F_MD_23 e73 d_MD_publish_121 ?_
      refine lv_bipush (v := 21) C.1.1 C.1.2.1 d_MD_publish_124 (by decide) ?_
      refine lv_imul C.1.1 C.1.2.1 d_MD_publish_126 ?_
      refine lv_iload_n C.1.1 C.1.2.1 d_MD_publish_127 rfl (lv_at hl 2 rfl) ?_
      refine lv_iadd C.1.1 C.1.2.1 d_MD_publish_128 ?_
      refine hq_aload_n C.1.1 C.1.2.1 d_MD_publish_129 rfl (lv_at hl 0 rfl) ?_
      replace hf := Option.bind_eq_some_iff.mp hf
      obtain ⟨x74, e75, hf⟩ := hf
      refine hq_getR C I F_MD_20 e75 d_MD_publish_130 ?_
      refine lv_iload_n C.1.1 C.1.2.1 d_MD_publish_133 rfl (lv_at hl 2 rfl) ?_
      replace hf := Option.bind_eq_some_iff.mp hf
      obtain ⟨x76, e77, hf⟩ := hf
      refine hq_iald C I (t := 0) rfl e77 d_MD_publish_134 ?_
      replace hf := Option.bind_eq_some_iff.mp hf
      obtain ⟨h78, e79, hf⟩ := hf
      refine hq_iast C I (t := 0) rfl e79 d_MD_publish_135 (fun H locs I => ?_)
      refine lv_iinc (v := (y2 + 1)) (lv' := [(2, .int (y2 + 1)), (0, va_rf (some t0)), (1, .int y1)]) C.1.1 C.1.2.1 d_MD_publish_136 hl (k := 2) rfl rfl (by decide) (by first | rfl | simp [hq_cat, hq_catI, hq_catL]) (fun ls hl => ?_)
      refine lv_goto (tgt := 108) C.1.1 C.1.2.1 d_MD_publish_139 (by decide) ?_
      refine W.widen (k := 0) (n := 0) (by decide) (by decide) ?_
      exact ih t0 y1 (y2 + 1) h78 _ hf _ _ I ls (lv_sub hl [1, 2, 0] rfl)
set_option maxRecDepth 100000 in
set_option maxHeartbeats 4000000 in
theorem k_MD_publish_L45 {p : Program} {l : Launch} {e : Env} {s : State} {m : MethodId} {args : Array Value} {below : List Frame} {meth : Method} {c : Code} {G : hp_G} {B : Nat} (C : hq_C p s m args meth c b_MD_publish 3 ((Option.some Jvm.ClassFile.FieldType.int)) "LayeredLauncherModel" "publish" gt G vwCl aTs) : ∀ (n : Nat) (t0 : Nat) (y1 : Int32) (y2 : Int32) (h : hp_H) (out : Int32 × hp_H), f_MD_publish_L45 n t0 y1 y2 h = some out → ∀ (H : Heap) (locs : List Loc), hp_I G vwCl B s.heap h H locs → ∀ ls : Array Slot, lv_has ls 3 [(0, va_rf (some t0)), (1, .int y1), (2, .int y2)] → W p l e ({ frames := 5, cells := 0, slots := 0, locals := 125 }) s m args below meth c H locs 0 0 (MQ below (hq_Q G vwCl B (some (.int out.1)) out.2) args s 0 0 (fun q => B ≤ q)) (F0 m 45 ls []) := by
  intro n
  induction n with
  | zero => intro t0 y1 y2 h out hf; simp [f_MD_publish_L45] at hf
  | succ n ih =>
    intro t0 y1 y2 h out hf H locs I ls hl
    simp only [f_MD_publish_L45] at hf
    refine lv_iload_n C.1.1 C.1.2.1 d_MD_publish_45 rfl (lv_at hl 2 rfl) ?_
    refine hq_aload_n C.1.1 C.1.2.1 d_MD_publish_46 rfl (lv_at hl 0 rfl) ?_
    replace hf := Option.bind_eq_some_iff.mp hf
    obtain ⟨x24, e25, hf⟩ := hf
    refine hq_getI C I F_MD_23 e25 d_MD_publish_47 ?_
    refine lv_icmp_ge (tgt := 94) C.1.1 C.1.2.1 d_MD_publish_50 (by decide) (fun c26 => ?_) (fun c26 => ?_)
    · rw [if_pos c26] at hf
      refine hq_aload_n C.1.1 C.1.2.1 d_MD_publish_94 rfl (lv_at hl 0 rfl) ?_
      replace hf := Option.bind_eq_some_iff.mp hf
      obtain ⟨x27, e28, hf⟩ := hf
      refine hq_getI C I F_MD_23 e28 d_MD_publish_95 ?_
      refine lv_bipush (v := 20) C.1.1 C.1.2.1 d_MD_publish_98 (by decide) ?_
      refine lv_icmp_ne (tgt := 106) C.1.1 C.1.2.1 d_MD_publish_100 (by decide) (fun c29 => ?_) (fun c29 => ?_)
      · rw [if_neg c29] at hf
        refine lv_iconst (v := 0) C.1.1 C.1.2.1 d_MD_publish_106 (by decide) ?_
        refine lv_istore_n (i := 2) (lv' := [(2, .int (0 : Int32)), (0, va_rf (some t0)), (1, .int y1)]) C.1.1 C.1.2.1 d_MD_publish_107 rfl hl (by decide) (by first | rfl | simp [hq_cat, hq_catI, hq_catL]) (fun ls hl => ?_)
        refine W.widen (k := 0) (n := 0) (by decide) (by decide) ?_
        exact k_MD_publish_L108 C FU t0 y1 (0 : Int32) h _ hf _ _ I ls (lv_sub hl [1, 2, 0] rfl)
      · rw [if_pos c29] at hf
        refine lv_bipush (v := -2) C.1.1 C.1.2.1 d_MD_publish_103 (by decide) ?_
        cases hf
        exact hq_iret C I (by decide) (by decide) d_MD_publish_105
    · rw [if_neg c26] at hf
      refine hq_aload_n C.1.1 C.1.2.1 d_MD_publish_53 rfl (lv_at hl 0 rfl) ?_
      replace hf := Option.bind_eq_some_iff.mp hf
      obtain ⟨x30, e31, hf⟩ := hf
      refine hq_getR C I F_MD_35 e31 d_MD_publish_54 ?_
      refine lv_iload_n C.1.1 C.1.2.1 d_MD_publish_57 rfl (lv_at hl 2 rfl) ?_
      replace hf := Option.bind_eq_some_iff.mp hf
      obtain ⟨x32, e33, hf⟩ := hf
      refine hq_zald C I (t := 3) rfl e33 d_MD_publish_58 ?_
      refine lv_if_ne (tgt := 88) C.1.1 C.1.2.1 d_MD_publish_59 (by decide) (fun c34 => ?_) (fun c34 => ?_)
      · rw [if_neg c34] at hf
        refine lv_iinc (v := (y2 + 1)) (lv' := [(2, .int (y2 + 1)), (0, va_rf (some t0)), (1, .int y1)]) C.1.1 C.1.2.1 d_MD_publish_88 hl (k := 2) rfl rfl (by decide) (by first | rfl | simp [hq_cat, hq_catI, hq_catL]) (fun ls hl => ?_)
        refine lv_goto (tgt := 45) C.1.1 C.1.2.1 d_MD_publish_91 (by decide) ?_
        refine W.widen (k := 0) (n := 0) (by decide) (by decide) ?_
        exact ih t0 y1 (y2 + 1) h _ hf _ _ I ls (lv_sub hl [1, 2, 0] rfl)
      · rw [if_pos c34] at hf
        refine hq_aload_n C.1.1 C.1.2.1 d_MD_publish_62 rfl (lv_at hl 0 rfl) ?_
        refine lv_iload_n C.1.1 C.1.2.1 d_MD_publish_63 rfl (lv_at hl 2 rfl) ?_
        refine lv_iload_n C.1.1 C.1.2.1 d_MD_publish_64 rfl (lv_at hl 1 rfl) ?_
        replace hf := Option.bind_eq_some_iff.mp hf
        obtain ⟨b37, e38, hf⟩ := hf
        obtain ⟨e38r, _, e38c⟩ := hp_o_inv e38
        cases e38r
        replace hf := Option.bind_eq_some_iff.mp hf
        obtain ⟨q35, e36, hf⟩ := hf
        refine hq_callW gt_good C I hl.1 (k_MD_hasName l G B _ t0 y2 y1 q35 e36) M_MD_149 e38c rfl ⟨rfl, rfl⟩ ⟨Nat.le_of_ble_eq_true rfl, Nat.le_of_ble_eq_true rfl⟩ rfl (Nat.le_of_ble_eq_true rfl) d_MD_publish_65 ⟨Nat.le_of_ble_eq_true rfl, Nat.le_of_ble_eq_true rfl⟩ (fun H locs I => ?_)
        refine W.widen (k := 0) (n := 0) (by decide) (by decide) ?_
        refine lv_if_eq (tgt := 88) C.1.1 C.1.2.1 d_MD_publish_68 (by decide) (fun c39 => ?_) (fun c39 => ?_)
        · rw [if_pos c39] at hf
          refine lv_iinc (v := (y2 + 1)) (lv' := [(2, .int (y2 + 1)), (0, va_rf (some t0)), (1, .int y1)]) C.1.1 C.1.2.1 d_MD_publish_88 hl (k := 2) rfl rfl (by decide) (by first | rfl | simp [hq_cat, hq_catI, hq_catL]) (fun ls hl => ?_)
          refine lv_goto (tgt := 45) C.1.1 C.1.2.1 d_MD_publish_91 (by decide) ?_
          refine W.widen (k := 0) (n := 0) (by decide) (by decide) ?_
          exact ih t0 y1 (y2 + 1) q35.2 _ hf _ _ I ls (lv_sub hl [1, 2, 0] rfl)
        · rw [if_neg c39] at hf
          refine hq_aload_n C.1.1 C.1.2.1 d_MD_publish_71 rfl (lv_at hl 0 rfl) ?_
          refine lv_iload_n C.1.1 C.1.2.1 d_MD_publish_72 rfl (lv_at hl 2 rfl) ?_
          refine lv_iload_n C.1.1 C.1.2.1 d_MD_publish_73 rfl (lv_at hl 1 rfl) ?_
          refine lv_iconst (v := 1) C.1.1 C.1.2.1 d_MD_publish_74 (by decide) ?_
          refine lv_iadd C.1.1 C.1.2.1 d_MD_publish_75 ?_
          refine hq_aload_n C.1.1 C.1.2.1 d_MD_publish_76 rfl (lv_at hl 0 rfl) ?_
          replace hf := Option.bind_eq_some_iff.mp hf
          obtain ⟨x40, e41, hf⟩ := hf
          refine hq_getI C I F_MD_17 e41 d_MD_publish_77 ?_
          replace hf := Option.bind_eq_some_iff.mp hf
          obtain ⟨b44, e45, hf⟩ := hf
          obtain ⟨e45r, _, e45c⟩ := hp_o_inv e45
          cases e45r
          replace hf := Option.bind_eq_some_iff.mp hf
          obtain ⟨q42, e43, hf⟩ := hf
          refine hq_callW gt_good C I hl.1 (k_MD_orderTo l G B _ t0 y2 (y1 + (1 : Int32)) x40 q42 e43) M_MD_142 e45c rfl ⟨rfl, rfl⟩ ⟨Nat.le_of_ble_eq_true rfl, Nat.le_of_ble_eq_true rfl⟩ rfl (Nat.le_of_ble_eq_true rfl) d_MD_publish_80 ⟨Nat.le_of_ble_eq_true rfl, Nat.le_of_ble_eq_true rfl⟩ (fun H locs I => ?_)
          refine W.widen (k := 0) (n := 0) (by decide) (by decide) ?_
          refine lv_if_ne (tgt := 88) C.1.1 C.1.2.1 d_MD_publish_83 (by decide) (fun c46 => ?_) (fun c46 => ?_)
          · rw [if_neg c46] at hf
            refine lv_iinc (v := (y2 + 1)) (lv' := [(2, .int (y2 + 1)), (0, va_rf (some t0)), (1, .int y1)]) C.1.1 C.1.2.1 d_MD_publish_88 hl (k := 2) rfl rfl (by decide) (by first | rfl | simp [hq_cat, hq_catI, hq_catL]) (fun ls hl => ?_)
            refine lv_goto (tgt := 45) C.1.1 C.1.2.1 d_MD_publish_91 (by decide) ?_
            refine W.widen (k := 0) (n := 0) (by decide) (by decide) ?_
            exact ih t0 y1 (y2 + 1) q42.2 _ hf _ _ I ls (lv_sub hl [1, 2, 0] rfl)
          · rw [if_pos c46] at hf
            refine lv_iconst (v := -1) C.1.1 C.1.2.1 d_MD_publish_86 (by decide) ?_
            cases hf
            exact hq_iret C I (by decide) (by decide) d_MD_publish_87
set_option maxRecDepth 100000 in
set_option maxHeartbeats 4000000 in
theorem k_MD_publish (l : Launch) (G : hp_G) (B : Nat) (h : hp_H) (t0 : Nat) (out : Int32 × hp_H) (hf : f_MD_publish h t0 = some out) : Met l y_MD_publish (.code y_MD_publish b_MD_publish 3 ((Option.some Jvm.ClassFile.FieldType.int)) :: gt) ({ frames := 5, cells := 0, slots := 0, locals := 125 }) (hq_Pc G vwCl aTs B h [.ref t0]) (hq_Q G vwCl B (some (.int out.1)) out.2) 0 0 (fun q => B ≤ q) := by
  refine hq_enter (nL := 3) (by decide +kernel) (Nat.le_of_ble_eq_true rfl) ?_
  intro p e s m args below meth c C I ls hl
  have hl : lv_has ls 3 [(0, va_rf (some t0))] := hl
  unfold f_MD_publish at hf
  refine hq_aload_n C.1.1 C.1.2.1 d_MD_publish_0 rfl (lv_at hl 0 rfl) ?_
  replace hf := Option.bind_eq_some_iff.mp hf
  obtain ⟨b3, e4, hf⟩ := hf
  obtain ⟨e4r, _, e4c⟩ := hp_o_inv e4
  cases e4r
  replace hf := Option.bind_eq_some_iff.mp hf
  obtain ⟨q1, e2, hf⟩ := hf
  refine hq_callW gt_good C I hl.1 (k_MD_take l G B _ t0 q1 e2) M_MD_158 e4c rfl ⟨rfl, rfl⟩ ⟨Nat.le_of_ble_eq_true rfl, Nat.le_of_ble_eq_true rfl⟩ rfl (Nat.le_of_ble_eq_true rfl) d_MD_publish_1 ⟨Nat.le_of_ble_eq_true rfl, Nat.le_of_ble_eq_true rfl⟩ (fun H locs I => ?_)
  refine W.widen (k := 0) (n := 0) (by decide) (by decide) ?_
  refine hq_aload_n C.1.1 C.1.2.1 d_MD_publish_4 rfl (lv_at hl 0 rfl) ?_
  replace hf := Option.bind_eq_some_iff.mp hf
  obtain ⟨b7, e8, hf⟩ := hf
  obtain ⟨e8r, _, e8c⟩ := hp_o_inv e8
  cases e8r
  replace hf := Option.bind_eq_some_iff.mp hf
  obtain ⟨q5, e6, hf⟩ := hf
  refine hq_callW gt_good C I hl.1 (k_MD_colonAt l G B _ t0 q5 e6) M_MD_146 e8c rfl ⟨rfl, rfl⟩ ⟨Nat.le_of_ble_eq_true rfl, Nat.le_of_ble_eq_true rfl⟩ rfl (Nat.le_of_ble_eq_true rfl) d_MD_publish_5 ⟨Nat.le_of_ble_eq_true rfl, Nat.le_of_ble_eq_true rfl⟩ (fun H locs I => ?_)
  refine W.widen (k := 0) (n := 0) (by decide) (by decide) ?_
  refine lv_istore_n (i := 1) (lv' := [(1, .int q5.1), (0, va_rf (some t0))]) C.1.1 C.1.2.1 d_MD_publish_8 rfl hl (by decide) (by first | rfl | simp [hq_cat, hq_catI, hq_catL]) (fun ls hl => ?_)
  refine hq_aload_n C.1.1 C.1.2.1 d_MD_publish_9 rfl (lv_at hl 1 rfl) ?_
  refine lv_iconst (v := 0) C.1.1 C.1.2.1 d_MD_publish_10 (by decide) ?_
  refine lv_iload_n C.1.1 C.1.2.1 d_MD_publish_11 rfl (lv_at hl 0 rfl) ?_
  replace hf := Option.bind_eq_some_iff.mp hf
  obtain ⟨b11, e12, hf⟩ := hf
  obtain ⟨e12r, _, e12c⟩ := hp_o_inv e12
  cases e12r
  replace hf := Option.bind_eq_some_iff.mp hf
  obtain ⟨q9, e10, hf⟩ := hf
  refine hq_callW gt_good C I hl.1 (k_MD_isName l G B _ t0 (0 : Int32) q5.1 q9 e10) M_MD_161 e12c rfl ⟨rfl, rfl⟩ ⟨Nat.le_of_ble_eq_true rfl, Nat.le_of_ble_eq_true rfl⟩ rfl (Nat.le_of_ble_eq_true rfl) d_MD_publish_12 ⟨Nat.le_of_ble_eq_true rfl, Nat.le_of_ble_eq_true rfl⟩ (fun H locs I => ?_)
  refine W.widen (k := 0) (n := 0) (by decide) (by decide) ?_
  refine lv_if_eq (tgt := 40) C.1.1 C.1.2.1 d_MD_publish_15 (by decide) (fun c13 => ?_) (fun c13 => ?_)
  · rw [if_pos c13] at hf
    refine lv_bipush (v := -3) C.1.1 C.1.2.1 d_MD_publish_40 (by decide) ?_
    cases hf
    exact hq_iret C I (by decide) (by decide) d_MD_publish_42
  · rw [if_neg c13] at hf
    refine lv_iload_n C.1.1 C.1.2.1 d_MD_publish_18 rfl (lv_at hl 0 rfl) ?_
    refine hq_aload_n C.1.1 C.1.2.1 d_MD_publish_19 rfl (lv_at hl 1 rfl) ?_
    replace hf := Option.bind_eq_some_iff.mp hf
    obtain ⟨x14, e15, hf⟩ := hf
    refine hq_getI C I F_MD_17 e15 d_MD_publish_20 ?_
    refine lv_icmp_eq (tgt := 40) C.1.1 C.1.2.1 d_MD_publish_23 (by decide) (fun c16 => ?_) (fun c16 => ?_)
    · rw [if_pos c16] at hf
      refine lv_bipush (v := -3) C.1.1 C.1.2.1 d_MD_publish_40 (by decide) ?_
      cases hf
      exact hq_iret C I (by decide) (by decide) d_MD_publish_42
    · rw [if_neg c16] at hf
      refine hq_aload_n C.1.1 C.1.2.1 d_MD_publish_26 rfl (lv_at hl 1 rfl) ?_
      refine lv_iload_n C.1.1 C.1.2.1 d_MD_publish_27 rfl (lv_at hl 0 rfl) ?_
      refine lv_iconst (v := 1) C.1.1 C.1.2.1 d_MD_publish_28 (by decide) ?_
      refine lv_iadd C.1.1 C.1.2.1 d_MD_publish_29 ?_
      refine hq_aload_n C.1.1 C.1.2.1 d_MD_publish_30 rfl (lv_at hl 1 rfl) ?_
      replace hf := Option.bind_eq_some_iff.mp hf
      obtain ⟨x17, e18, hf⟩ := hf
      refine hq_getI C I F_MD_17 e18 d_MD_publish_31 ?_
      replace hf := Option.bind_eq_some_iff.mp hf
      obtain ⟨b21, e22, hf⟩ := hf
      obtain ⟨e22r, _, e22c⟩ := hp_o_inv e22
      cases e22r
      replace hf := Option.bind_eq_some_iff.mp hf
      obtain ⟨q19, e20, hf⟩ := hf
      refine hq_callW gt_good C I hl.1 (k_MD_isVersion l G B _ t0 (q5.1 + (1 : Int32)) x17 q19 e20) M_MD_106 e22c rfl ⟨rfl, rfl⟩ ⟨Nat.le_of_ble_eq_true rfl, Nat.le_of_ble_eq_true rfl⟩ rfl (Nat.le_of_ble_eq_true rfl) d_MD_publish_34 ⟨Nat.le_of_ble_eq_true rfl, Nat.le_of_ble_eq_true rfl⟩ (fun H locs I => ?_)
      refine W.widen (k := 0) (n := 0) (by decide) (by decide) ?_
      refine lv_if_ne (tgt := 43) C.1.1 C.1.2.1 d_MD_publish_37 (by decide) (fun c23 => ?_) (fun c23 => ?_)
      · rw [if_neg c23] at hf
        refine lv_iconst (v := 0) C.1.1 C.1.2.1 d_MD_publish_43 (by decide) ?_
        refine lv_istore_n (i := 2) (lv' := [(2, .int (0 : Int32)), (1, .int q5.1), (0, va_rf (some t0))]) C.1.1 C.1.2.1 d_MD_publish_44 rfl hl (by decide) (by first | rfl | simp [hq_cat, hq_catI, hq_catL]) (fun ls hl => ?_)
        refine W.widen (k := 0) (n := 0) (by decide) (by decide) ?_
        exact k_MD_publish_L45 C FU t0 q5.1 (0 : Int32) q19.2 _ hf _ _ I ls (lv_sub hl [2, 1, 0] rfl)
      · rw [if_pos c23] at hf
        refine lv_bipush (v := -3) C.1.1 C.1.2.1 d_MD_publish_40 (by decide) ?_
        cases hf
        exact hq_iret C I (by decide) (by decide) d_MD_publish_42
set_option maxRecDepth 100000 in
set_option maxHeartbeats 4000000 in
theorem k_MD_none (l : Launch) (G : hp_G) (B : Nat) (h : hp_H) (t0 : Nat) (p1 : Int32) (out : Int32 × hp_H) (hf : f_MD_none h t0 p1 = some out) : Met l y_MD_none (.code y_MD_none b_MD_none 2 ((Option.some Jvm.ClassFile.FieldType.boolean)) :: gt) ({ frames := 0, cells := 0, slots := 0, locals := 0 }) (hq_Pc G vwCl aTs B h [.ref t0, .int p1]) (hq_Q G vwCl B (some (.int out.1)) out.2) 0 0 (fun q => B ≤ q) := by
  refine hq_enter (nL := 2) (by decide +kernel) (Nat.le_of_ble_eq_true rfl) ?_
  intro p e s m args below meth c C I ls hl
  have hl : lv_has ls 2 [(0, va_rf (some t0)), (1, .int p1)] := hl
  unfold f_MD_none at hf
  refine lv_iload_n C.1.1 C.1.2.1 d_MD_none_0 rfl (lv_at hl 1 rfl) ?_
  refine lv_if_lt (tgt := 12) C.1.1 C.1.2.1 d_MD_none_1 (by decide) (fun c1 => ?_) (fun c1 => ?_)
  · rw [if_pos c1] at hf
    refine lv_iconst (v := 1) C.1.1 C.1.2.1 d_MD_none_12 (by decide) ?_
    refine lv_goto (tgt := 17) C.1.1 C.1.2.1 d_MD_none_13 (by decide) ?_
    cases hf
    exact hq_zret C I (hp_z_nar (x := 1) (Or.inr rfl)).1 (by decide) (by decide) d_MD_none_17
  · rw [if_neg c1] at hf
    refine lv_iload_n C.1.1 C.1.2.1 d_MD_none_4 rfl (lv_at hl 1 rfl) ?_
    refine hq_aload_n C.1.1 C.1.2.1 d_MD_none_5 rfl (lv_at hl 0 rfl) ?_
    replace hf := Option.bind_eq_some_iff.mp hf
    obtain ⟨x2, e3, hf⟩ := hf
    refine hq_getI C I F_MD_23 e3 d_MD_none_6 ?_
    refine lv_icmp_lt (tgt := 16) C.1.1 C.1.2.1 d_MD_none_9 (by decide) (fun c4 => ?_) (fun c4 => ?_)
    · rw [if_pos c4] at hf
      refine lv_iconst (v := 0) C.1.1 C.1.2.1 d_MD_none_16 (by decide) ?_
      cases hf
      exact hq_zret C I (hp_z_nar (x := 0) (Or.inl rfl)).1 (by decide) (by decide) d_MD_none_17
    · rw [if_neg c4] at hf
      refine lv_iconst (v := 1) C.1.1 C.1.2.1 d_MD_none_12 (by decide) ?_
      refine lv_goto (tgt := 17) C.1.1 C.1.2.1 d_MD_none_13 (by decide) ?_
      cases hf
      exact hq_zret C I (hp_z_nar (x := 1) (Or.inr rfl)).1 (by decide) (by decide) d_MD_none_17
