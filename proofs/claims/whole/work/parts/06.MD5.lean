set_option maxRecDepth 100000 in
set_option maxHeartbeats 4000000 in
theorem k_MD_count_L104 {p : Program} {l : Launch} {e : Env} {s : State} {m : MethodId} {args : Array Value} {below : List Frame} {meth : Method} {c : Code} {G : hp_G} {B : Nat} (C : hq_C p s m args meth c b_MD_count 4 ((Option.some Jvm.ClassFile.FieldType.int)) "LayeredLauncherModel" "count" gt G vwCl aTs) : ∀ (t0 : Nat) (y1 : Int32) (y2 : Int32) (h : hp_H) (out : Int32 × hp_H), f_MD_count_L104 t0 y1 y2 h = some out → ∀ (H : Heap) (locs : List Loc), hp_I G vwCl B s.heap h H locs → ∀ ls : Array Slot, lv_has ls 4 [(0, va_rf (some t0)), (1, .int y1), (2, .int y2)] → W p l e ({ frames := 1, cells := 0, slots := 0, locals := 23 }) s m args below meth c H locs 0 0 (MQ below (hq_Q G vwCl B (some (.int out.1)) out.2) args s 0 0 (fun q => B ≤ q)) (F0 m 104 ls []) := by
  intro t0 y1 y2 h out hf H locs I ls hl
  unfold f_MD_count_L104 at hf
  refine lv_iload_n C.1.1 C.1.2.1 d_MD_count_104 rfl (lv_at hl 1 rfl) ?_
  refine lv_if_ne (tgt := 115) C.1.1 C.1.2.1 d_MD_count_105 (by decide) (fun c24 => ?_) (fun c24 => ?_)
  · rw [if_neg c24] at hf
    refine lv_iload_n C.1.1 C.1.2.1 d_MD_count_115 rfl (lv_at hl 1 rfl) ?_
    refine lv_iconst (v := 2) C.1.1 C.1.2.1 d_MD_count_116 (by decide) ?_
    refine lv_icmp_ne (tgt := 127) C.1.1 C.1.2.1 d_MD_count_117 (by decide) (fun c25 => ?_) (fun c25 => ?_)
    · rw [if_neg c25] at hf
      refine lv_iload_n C.1.1 C.1.2.1 d_MD_count_127 rfl (lv_at hl 1 rfl) ?_
      refine lv_iconst (v := 3) C.1.1 C.1.2.1 d_MD_count_128 (by decide) ?_
      refine lv_icmp_ne (tgt := 139) C.1.1 C.1.2.1 d_MD_count_129 (by decide) (fun c26 => ?_) (fun c26 => ?_)
      · rw [if_neg c26] at hf
        refine lv_iload_n C.1.1 C.1.2.1 d_MD_count_139 rfl (lv_at hl 1 rfl) ?_
        refine lv_iconst (v := 1) C.1.1 C.1.2.1 d_MD_count_140 (by decide) ?_
        refine lv_icmp_eq (tgt := 154) C.1.1 C.1.2.1 d_MD_count_141 (by decide) (fun c27 => ?_) (fun c27 => ?_)
        · rw [if_pos c27] at hf
          refine lv_iload_n C.1.1 C.1.2.1 d_MD_count_154 rfl (lv_at hl 2 rfl) ?_
          refine lv_goto (tgt := 159) C.1.1 C.1.2.1 d_MD_count_155 (by decide) ?_
          cases hf
          exact hq_iret C I (by decide) (by decide) d_MD_count_159
        · rw [if_neg c27] at hf
          refine lv_iload_n C.1.1 C.1.2.1 d_MD_count_144 rfl (lv_at hl 1 rfl) ?_
          refine lv_iconst (v := 4) C.1.1 C.1.2.1 d_MD_count_145 (by decide) ?_
          refine lv_icmp_eq (tgt := 154) C.1.1 C.1.2.1 d_MD_count_146 (by decide) (fun c28 => ?_) (fun c28 => ?_)
          · rw [if_pos c28] at hf
            refine lv_iload_n C.1.1 C.1.2.1 d_MD_count_154 rfl (lv_at hl 2 rfl) ?_
            refine lv_goto (tgt := 159) C.1.1 C.1.2.1 d_MD_count_155 (by decide) ?_
            cases hf
            exact hq_iret C I (by decide) (by decide) d_MD_count_159
          · rw [if_neg c28] at hf
            refine lv_iload_n C.1.1 C.1.2.1 d_MD_count_149 rfl (lv_at hl 1 rfl) ?_
            refine lv_iconst (v := 5) C.1.1 C.1.2.1 d_MD_count_150 (by decide) ?_
            refine lv_icmp_ne (tgt := 158) C.1.1 C.1.2.1 d_MD_count_151 (by decide) (fun c29 => ?_) (fun c29 => ?_)
            · rw [if_neg c29] at hf
              refine lv_iconst (v := -1) C.1.1 C.1.2.1 d_MD_count_158 (by decide) ?_
              cases hf
              exact hq_iret C I (by decide) (by decide) d_MD_count_159
            · rw [if_pos c29] at hf
              refine lv_iload_n C.1.1 C.1.2.1 d_MD_count_154 rfl (lv_at hl 2 rfl) ?_
              refine lv_goto (tgt := 159) C.1.1 C.1.2.1 d_MD_count_155 (by decide) ?_
              cases hf
              exact hq_iret C I (by decide) (by decide) d_MD_count_159
      · rw [if_pos c26] at hf
        refine hq_aload_n C.1.1 C.1.2.1 d_MD_count_132 rfl (lv_at hl 0 rfl) ?_
        replace hf := Option.bind_eq_some_iff.mp hf
        obtain ⟨x30, e31, hf⟩ := hf
        refine hq_getI C I F_MD_66 e31 d_MD_count_133 ?_
        refine lv_goto (tgt := 159) C.1.1 C.1.2.1 d_MD_count_136 (by decide) ?_
        cases hf
        exact hq_iret C I (by decide) (by decide) d_MD_count_159
    · rw [if_pos c25] at hf
      refine hq_aload_n C.1.1 C.1.2.1 d_MD_count_120 rfl (lv_at hl 0 rfl) ?_
      replace hf := Option.bind_eq_some_iff.mp hf
      obtain ⟨x32, e33, hf⟩ := hf
      refine hq_getI C I F_MD_7 e33 d_MD_count_121 ?_
      refine lv_goto (tgt := 159) C.1.1 C.1.2.1 d_MD_count_124 (by decide) ?_
      cases hf
      exact hq_iret C I (by decide) (by decide) d_MD_count_159
  · rw [if_pos c24] at hf
    refine hq_aload_n C.1.1 C.1.2.1 d_MD_count_108 rfl (lv_at hl 0 rfl) ?_
    replace hf := Option.bind_eq_some_iff.mp hf
    obtain ⟨x34, e35, hf⟩ := hf
    refine hq_getI C I F_MD_23 e35 d_MD_count_109 ?_
    refine lv_goto (tgt := 159) C.1.1 C.1.2.1 d_MD_count_112 (by decide) ?_
    cases hf
    exact hq_iret C I (by decide) (by decide) d_MD_count_159
set_option maxRecDepth 100000 in
set_option maxHeartbeats 4000000 in
theorem k_MD_count_L80 {p : Program} {l : Launch} {e : Env} {s : State} {m : MethodId} {args : Array Value} {below : List Frame} {meth : Method} {c : Code} {G : hp_G} {B : Nat} (C : hq_C p s m args meth c b_MD_count 4 ((Option.some Jvm.ClassFile.FieldType.int)) "LayeredLauncherModel" "count" gt G vwCl aTs) : ∀ (n : Nat) (t0 : Nat) (y1 : Int32) (y2 : Int32) (y3 : Int32) (h : hp_H) (out : Int32 × hp_H), f_MD_count_L80 n t0 y1 y2 y3 h = some out → ∀ (H : Heap) (locs : List Loc), hp_I G vwCl B s.heap h H locs → ∀ ls : Array Slot, lv_has ls 4 [(0, va_rf (some t0)), (1, .int y1), (2, .int y2), (3, .int y3)] → W p l e ({ frames := 1, cells := 0, slots := 0, locals := 23 }) s m args below meth c H locs 0 0 (MQ below (hq_Q G vwCl B (some (.int out.1)) out.2) args s 0 0 (fun q => B ≤ q)) (F0 m 80 ls []) := by
  intro n
  induction n with
  | zero => intro t0 y1 y2 y3 h out hf; simp [f_MD_count_L80] at hf
  | succ n ih =>
    intro t0 y1 y2 y3 h out hf H locs I ls hl
    simp only [f_MD_count_L80] at hf
    refine lv_iload_n C.1.1 C.1.2.1 d_MD_count_80 rfl (lv_at hl 3 rfl) ?_
    refine lv_bipush (v := 32) C.1.1 C.1.2.1 d_MD_count_81 (by decide) ?_
    refine lv_icmp_ge (tgt := 104) C.1.1 C.1.2.1 d_MD_count_83 (by decide) (fun c36 => ?_) (fun c36 => ?_)
    · rw [if_pos c36] at hf
      refine W.widen (k := 0) (n := 0) (by decide) (by decide) ?_
      exact k_MD_count_L104 C t0 y1 y2 h _ hf _ _ I ls (lv_sub hl [0, 1, 2] rfl)
    · rw [if_neg c36] at hf
      refine hq_aload_n C.1.1 C.1.2.1 d_MD_count_86 rfl (lv_at hl 0 rfl) ?_
      refine lv_iload_n C.1.1 C.1.2.1 d_MD_count_87 rfl (lv_at hl 3 rfl) ?_
      replace hf := Option.bind_eq_some_iff.mp hf
      obtain ⟨b39, e40, hf⟩ := hf
      obtain ⟨e40r, _, e40c⟩ := hp_o_inv e40
      cases e40r
      replace hf := Option.bind_eq_some_iff.mp hf
      obtain ⟨q37, e38, hf⟩ := hf
      refine hq_callW gt_good C I hl.1 (k_MD_holders l G B _ t0 y3 q37 e38) M_MD_189 e40c rfl ⟨rfl, rfl⟩ ⟨Nat.le_of_ble_eq_true rfl, Nat.le_of_ble_eq_true rfl⟩ rfl (Nat.le_of_ble_eq_true rfl) d_MD_count_88 ⟨Nat.le_of_ble_eq_true rfl, Nat.le_of_ble_eq_true rfl⟩ (fun H locs I => ?_)
      refine W.widen (k := 0) (n := 0) (by decide) (by decide) ?_
      refine lv_iconst (v := 1) C.1.1 C.1.2.1 d_MD_count_91 (by decide) ?_
      refine lv_icmp_le (tgt := 98) C.1.1 C.1.2.1 d_MD_count_92 (by decide) (fun c41 => ?_) (fun c41 => ?_)
      · rw [if_pos c41] at hf
        refine lv_iinc (v := (y3 + 1)) (lv' := [(3, .int (y3 + 1)), (0, va_rf (some t0)), (1, .int y1), (2, .int y2)]) C.1.1 C.1.2.1 d_MD_count_98 hl (k := 3) rfl rfl (by decide) (by first | rfl | simp [hq_cat, hq_catI, hq_catL]) (fun ls hl => ?_)
        refine lv_goto (tgt := 80) C.1.1 C.1.2.1 d_MD_count_101 (by decide) ?_
        refine W.widen (k := 0) (n := 0) (by decide) (by decide) ?_
        exact ih t0 y1 y2 (y3 + 1) q37.2 _ hf _ _ I ls (lv_sub hl [1, 2, 3, 0] rfl)
      · rw [if_neg c41] at hf
        refine lv_iinc (v := (y2 + 1)) (lv' := [(2, .int (y2 + 1)), (0, va_rf (some t0)), (1, .int y1), (3, .int y3)]) C.1.1 C.1.2.1 d_MD_count_95 hl (k := 2) rfl rfl (by decide) (by first | rfl | simp [hq_cat, hq_catI, hq_catL]) (fun ls hl => ?_)
        refine lv_iinc (v := (y3 + 1)) (lv' := [(3, .int (y3 + 1)), (2, .int (y2 + 1)), (0, va_rf (some t0)), (1, .int y1)]) C.1.1 C.1.2.1 d_MD_count_98 hl (k := 3) rfl rfl (by decide) (by first | rfl | simp [hq_cat, hq_catI, hq_catL]) (fun ls hl => ?_)
        refine lv_goto (tgt := 80) C.1.1 C.1.2.1 d_MD_count_101 (by decide) ?_
        refine W.widen (k := 0) (n := 0) (by decide) (by decide) ?_
        exact ih t0 y1 (y2 + 1) (y3 + 1) q37.2 _ hf _ _ I ls (lv_sub hl [2, 3, 1, 0] rfl)
set_option maxRecDepth 100000 in
set_option maxHeartbeats 4000000 in
theorem k_MD_count_L73 {p : Program} {l : Launch} {e : Env} {s : State} {m : MethodId} {args : Array Value} {below : List Frame} {meth : Method} {c : Code} {G : hp_G} {B : Nat} (C : hq_C p s m args meth c b_MD_count 4 ((Option.some Jvm.ClassFile.FieldType.int)) "LayeredLauncherModel" "count" gt G vwCl aTs) : ∀ (t0 : Nat) (y1 : Int32) (y2 : Int32) (h : hp_H) (out : Int32 × hp_H), f_MD_count_L73 t0 y1 y2 h = some out → ∀ (H : Heap) (locs : List Loc), hp_I G vwCl B s.heap h H locs → ∀ ls : Array Slot, lv_has ls 4 [(0, va_rf (some t0)), (1, .int y1), (2, .int y2)] → W p l e ({ frames := 1, cells := 0, slots := 0, locals := 23 }) s m args below meth c H locs 0 0 (MQ below (hq_Q G vwCl B (some (.int out.1)) out.2) args s 0 0 (fun q => B ≤ q)) (F0 m 73 ls []) := by
  intro t0 y1 y2 h out hf H locs I ls hl
  unfold f_MD_count_L73 at hf
  refine lv_iload_n C.1.1 C.1.2.1 d_MD_count_73 rfl (lv_at hl 1 rfl) ?_
  refine lv_iconst (v := 5) C.1.1 C.1.2.1 d_MD_count_74 (by decide) ?_
  refine lv_icmp_ne (tgt := 104) C.1.1 C.1.2.1 d_MD_count_75 (by decide) (fun c11 => ?_) (fun c11 => ?_)
  · rw [if_neg c11] at hf
    refine W.widen (k := 0) (n := 0) (by decide) (by decide) ?_
    exact k_MD_count_L104 C t0 y1 y2 h _ hf _ _ I ls (lv_sub hl [0, 1, 2] rfl)
  · rw [if_pos c11] at hf
    refine lv_iconst (v := 0) C.1.1 C.1.2.1 d_MD_count_78 (by decide) ?_
    refine lv_istore_n (i := 3) (lv' := [(3, .int (0 : Int32)), (0, va_rf (some t0)), (1, .int y1), (2, .int y2)]) C.1.1 C.1.2.1 d_MD_count_79 rfl hl (by decide) (by first | rfl | simp [hq_cat, hq_catI, hq_catL]) (fun ls hl => ?_)
    refine W.widen (k := 0) (n := 0) (by decide) (by decide) ?_
    exact k_MD_count_L80 C FU t0 y1 y2 (0 : Int32) h _ hf _ _ I ls (lv_sub hl [1, 2, 3, 0] rfl)
set_option maxRecDepth 100000 in
set_option maxHeartbeats 4000000 in
theorem k_MD_count_L42 {p : Program} {l : Launch} {e : Env} {s : State} {m : MethodId} {args : Array Value} {below : List Frame} {meth : Method} {c : Code} {G : hp_G} {B : Nat} (C : hq_C p s m args meth c b_MD_count 4 ((Option.some Jvm.ClassFile.FieldType.int)) "LayeredLauncherModel" "count" gt G vwCl aTs) : ∀ (n : Nat) (t0 : Nat) (y1 : Int32) (y2 : Int32) (y3 : Int32) (h : hp_H) (out : Int32 × hp_H), f_MD_count_L42 n t0 y1 y2 y3 h = some out → ∀ (H : Heap) (locs : List Loc), hp_I G vwCl B s.heap h H locs → ∀ ls : Array Slot, lv_has ls 4 [(0, va_rf (some t0)), (1, .int y1), (2, .int y2), (3, .int y3)] → W p l e ({ frames := 1, cells := 0, slots := 0, locals := 23 }) s m args below meth c H locs 0 0 (MQ below (hq_Q G vwCl B (some (.int out.1)) out.2) args s 0 0 (fun q => B ≤ q)) (F0 m 42 ls []) := by
  intro n
  induction n with
  | zero => intro t0 y1 y2 y3 h out hf; simp [f_MD_count_L42] at hf
  | succ n ih =>
    intro t0 y1 y2 y3 h out hf H locs I ls hl
    simp only [f_MD_count_L42] at hf
    refine lv_iload_n C.1.1 C.1.2.1 d_MD_count_42 rfl (lv_at hl 3 rfl) ?_
    refine hq_aload_n C.1.1 C.1.2.1 d_MD_count_43 rfl (lv_at hl 0 rfl) ?_
    replace hf := Option.bind_eq_some_iff.mp hf
    obtain ⟨x12, e13, hf⟩ := hf
    refine hq_getI C I F_MD_66 e13 d_MD_count_44 ?_
    refine lv_icmp_ge (tgt := 73) C.1.1 C.1.2.1 d_MD_count_47 (by decide) (fun c14 => ?_) (fun c14 => ?_)
    · rw [if_pos c14] at hf
      refine W.widen (k := 0) (n := 0) (by decide) (by decide) ?_
      exact k_MD_count_L73 C t0 y1 y2 h _ hf _ _ I ls (lv_sub hl [0, 1, 2] rfl)
    · rw [if_neg c14] at hf
      refine hq_aload_n C.1.1 C.1.2.1 d_MD_count_50 rfl (lv_at hl 0 rfl) ?_
      replace hf := Option.bind_eq_some_iff.mp hf
      obtain ⟨x15, e16, hf⟩ := hf
      refine hq_getR C I F_MD_75 e16 d_MD_count_51 ?_
      refine lv_iload_n C.1.1 C.1.2.1 d_MD_count_54 rfl (lv_at hl 3 rfl) ?_
      replace hf := Option.bind_eq_some_iff.mp hf
      obtain ⟨x17, e18, hf⟩ := hf
      refine hq_iald C I (t := 0) rfl e18 d_MD_count_55 ?_
      refine lv_iload_n C.1.1 C.1.2.1 d_MD_count_56 rfl (lv_at hl 2 rfl) ?_
      refine lv_icmp_le (tgt := 67) C.1.1 C.1.2.1 d_MD_count_57 (by decide) (fun c19 => ?_) (fun c19 => ?_)
      · rw [if_pos c19] at hf
        refine lv_iinc (v := (y3 + 1)) (lv' := [(3, .int (y3 + 1)), (0, va_rf (some t0)), (1, .int y1), (2, .int y2)]) C.1.1 C.1.2.1 d_MD_count_67 hl (k := 3) rfl rfl (by decide) (by first | rfl | simp [hq_cat, hq_catI, hq_catL]) (fun ls hl => ?_)
        refine lv_goto (tgt := 42) C.1.1 C.1.2.1 d_MD_count_70 (by decide) ?_
        refine W.widen (k := 0) (n := 0) (by decide) (by decide) ?_
        exact ih t0 y1 y2 (y3 + 1) h _ hf _ _ I ls (lv_sub hl [1, 2, 3, 0] rfl)
      · rw [if_neg c19] at hf
        refine hq_aload_n C.1.1 C.1.2.1 d_MD_count_60 rfl (lv_at hl 0 rfl) ?_
        replace hf := Option.bind_eq_some_iff.mp hf
        obtain ⟨x20, e21, hf⟩ := hf
        refine hq_getR C I F_MD_75 e21 d_MD_count_61 ?_
        refine lv_iload_n C.1.1 C.1.2.1 d_MD_count_64 rfl (lv_at hl 3 rfl) ?_
        replace hf := Option.bind_eq_some_iff.mp hf
        obtain ⟨x22, e23, hf⟩ := hf
        refine hq_iald C I (t := 0) rfl e23 d_MD_count_65 ?_
        refine lv_istore_n (i := 2) (lv' := [(2, .int x22), (0, va_rf (some t0)), (1, .int y1), (3, .int y3)]) C.1.1 C.1.2.1 d_MD_count_66 rfl hl (by decide) (by first | rfl | simp [hq_cat, hq_catI, hq_catL]) (fun ls hl => ?_)
        refine lv_iinc (v := (y3 + 1)) (lv' := [(3, .int (y3 + 1)), (2, .int x22), (0, va_rf (some t0)), (1, .int y1)]) C.1.1 C.1.2.1 d_MD_count_67 hl (k := 3) rfl rfl (by decide) (by first | rfl | simp [hq_cat, hq_catI, hq_catL]) (fun ls hl => ?_)
        refine lv_goto (tgt := 42) C.1.1 C.1.2.1 d_MD_count_70 (by decide) ?_
        refine W.widen (k := 0) (n := 0) (by decide) (by decide) ?_
        exact ih t0 y1 x22 (y3 + 1) h _ hf _ _ I ls (lv_sub hl [2, 3, 1, 0] rfl)
set_option maxRecDepth 100000 in
set_option maxHeartbeats 4000000 in
theorem k_MD_count_L35 {p : Program} {l : Launch} {e : Env} {s : State} {m : MethodId} {args : Array Value} {below : List Frame} {meth : Method} {c : Code} {G : hp_G} {B : Nat} (C : hq_C p s m args meth c b_MD_count 4 ((Option.some Jvm.ClassFile.FieldType.int)) "LayeredLauncherModel" "count" gt G vwCl aTs) : ∀ (t0 : Nat) (y1 : Int32) (y2 : Int32) (h : hp_H) (out : Int32 × hp_H), f_MD_count_L35 t0 y1 y2 h = some out → ∀ (H : Heap) (locs : List Loc), hp_I G vwCl B s.heap h H locs → ∀ ls : Array Slot, lv_has ls 4 [(0, va_rf (some t0)), (1, .int y1), (2, .int y2)] → W p l e ({ frames := 1, cells := 0, slots := 0, locals := 23 }) s m args below meth c H locs 0 0 (MQ below (hq_Q G vwCl B (some (.int out.1)) out.2) args s 0 0 (fun q => B ≤ q)) (F0 m 35 ls []) := by
  intro t0 y1 y2 h out hf H locs I ls hl
  unfold f_MD_count_L35 at hf
  refine lv_iload_n C.1.1 C.1.2.1 d_MD_count_35 rfl (lv_at hl 1 rfl) ?_
  refine lv_iconst (v := 4) C.1.1 C.1.2.1 d_MD_count_36 (by decide) ?_
  refine lv_icmp_ne (tgt := 73) C.1.1 C.1.2.1 d_MD_count_37 (by decide) (fun c2 => ?_) (fun c2 => ?_)
  · rw [if_neg c2] at hf
    refine W.widen (k := 0) (n := 0) (by decide) (by decide) ?_
    exact k_MD_count_L73 C t0 y1 y2 h _ hf _ _ I ls (lv_sub hl [0, 1, 2] rfl)
  · rw [if_pos c2] at hf
    refine lv_iconst (v := 0) C.1.1 C.1.2.1 d_MD_count_40 (by decide) ?_
    refine lv_istore_n (i := 3) (lv' := [(3, .int (0 : Int32)), (0, va_rf (some t0)), (1, .int y1), (2, .int y2)]) C.1.1 C.1.2.1 d_MD_count_41 rfl hl (by decide) (by first | rfl | simp [hq_cat, hq_catI, hq_catL]) (fun ls hl => ?_)
    refine W.widen (k := 0) (n := 0) (by decide) (by decide) ?_
    exact k_MD_count_L42 C FU t0 y1 y2 (0 : Int32) h _ hf _ _ I ls (lv_sub hl [1, 2, 3, 0] rfl)
set_option maxRecDepth 100000 in
set_option maxHeartbeats 4000000 in
theorem k_MD_count_L9 {p : Program} {l : Launch} {e : Env} {s : State} {m : MethodId} {args : Array Value} {below : List Frame} {meth : Method} {c : Code} {G : hp_G} {B : Nat} (C : hq_C p s m args meth c b_MD_count 4 ((Option.some Jvm.ClassFile.FieldType.int)) "LayeredLauncherModel" "count" gt G vwCl aTs) : ∀ (n : Nat) (t0 : Nat) (y1 : Int32) (y2 : Int32) (y3 : Int32) (h : hp_H) (out : Int32 × hp_H), f_MD_count_L9 n t0 y1 y2 y3 h = some out → ∀ (H : Heap) (locs : List Loc), hp_I G vwCl B s.heap h H locs → ∀ ls : Array Slot, lv_has ls 4 [(0, va_rf (some t0)), (1, .int y1), (2, .int y2), (3, .int y3)] → W p l e ({ frames := 1, cells := 0, slots := 0, locals := 23 }) s m args below meth c H locs 0 0 (MQ below (hq_Q G vwCl B (some (.int out.1)) out.2) args s 0 0 (fun q => B ≤ q)) (F0 m 9 ls []) := by
  intro n
  induction n with
  | zero => intro t0 y1 y2 y3 h out hf; simp [f_MD_count_L9] at hf
  | succ n ih =>
    intro t0 y1 y2 y3 h out hf H locs I ls hl
    simp only [f_MD_count_L9] at hf
    refine lv_iload_n C.1.1 C.1.2.1 d_MD_count_9 rfl (lv_at hl 3 rfl) ?_
    refine hq_aload_n C.1.1 C.1.2.1 d_MD_count_10 rfl (lv_at hl 0 rfl) ?_
    replace hf := Option.bind_eq_some_iff.mp hf
    obtain ⟨x3, e4, hf⟩ := hf
    refine hq_getI C I F_MD_23 e4 d_MD_count_11 ?_
    refine lv_icmp_ge (tgt := 35) C.1.1 C.1.2.1 d_MD_count_14 (by decide) (fun c5 => ?_) (fun c5 => ?_)
    · rw [if_pos c5] at hf
      refine W.widen (k := 0) (n := 0) (by decide) (by decide) ?_
      exact k_MD_count_L35 C t0 y1 y2 h _ hf _ _ I ls (lv_sub hl [0, 1, 2] rfl)
    · rw [if_neg c5] at hf
      refine hq_aload_n C.1.1 C.1.2.1 d_MD_count_17 rfl (lv_at hl 0 rfl) ?_
      replace hf := Option.bind_eq_some_iff.mp hf
      obtain ⟨x6, e7, hf⟩ := hf
      refine hq_getR C I F_MD_35 e7 d_MD_count_18 ?_
      refine lv_iload_n C.1.1 C.1.2.1 d_MD_count_21 rfl (lv_at hl 3 rfl) ?_
      replace hf := Option.bind_eq_some_iff.mp hf
      obtain ⟨x8, e9, hf⟩ := hf
      refine hq_zald C I (t := 3) rfl e9 d_MD_count_22 ?_
      refine lv_if_eq (tgt := 29) C.1.1 C.1.2.1 d_MD_count_23 (by decide) (fun c10 => ?_) (fun c10 => ?_)
      · rw [if_pos c10] at hf
        refine lv_iinc (v := (y3 + 1)) (lv' := [(3, .int (y3 + 1)), (0, va_rf (some t0)), (1, .int y1), (2, .int y2)]) C.1.1 C.1.2.1 d_MD_count_29 hl (k := 3) rfl rfl (by decide) (by first | rfl | simp [hq_cat, hq_catI, hq_catL]) (fun ls hl => ?_)
        refine lv_goto (tgt := 9) C.1.1 C.1.2.1 d_MD_count_32 (by decide) ?_
        refine W.widen (k := 0) (n := 0) (by decide) (by decide) ?_
        exact ih t0 y1 y2 (y3 + 1) h _ hf _ _ I ls (lv_sub hl [1, 2, 3, 0] rfl)
      · rw [if_neg c10] at hf
        refine lv_iinc (v := (y2 + 1)) (lv' := [(2, .int (y2 + 1)), (0, va_rf (some t0)), (1, .int y1), (3, .int y3)]) C.1.1 C.1.2.1 d_MD_count_26 hl (k := 2) rfl rfl (by decide) (by first | rfl | simp [hq_cat, hq_catI, hq_catL]) (fun ls hl => ?_)
        refine lv_iinc (v := (y3 + 1)) (lv' := [(3, .int (y3 + 1)), (2, .int (y2 + 1)), (0, va_rf (some t0)), (1, .int y1)]) C.1.1 C.1.2.1 d_MD_count_29 hl (k := 3) rfl rfl (by decide) (by first | rfl | simp [hq_cat, hq_catI, hq_catL]) (fun ls hl => ?_)
        refine lv_goto (tgt := 9) C.1.1 C.1.2.1 d_MD_count_32 (by decide) ?_
        refine W.widen (k := 0) (n := 0) (by decide) (by decide) ?_
        exact ih t0 y1 (y2 + 1) (y3 + 1) h _ hf _ _ I ls (lv_sub hl [2, 3, 1, 0] rfl)
set_option maxRecDepth 100000 in
set_option maxHeartbeats 4000000 in
theorem k_MD_count (l : Launch) (G : hp_G) (B : Nat) (h : hp_H) (t0 : Nat) (p1 : Int32) (out : Int32 × hp_H) (hf : f_MD_count h t0 p1 = some out) : Met l y_MD_count (.code y_MD_count b_MD_count 4 ((Option.some Jvm.ClassFile.FieldType.int)) :: gt) ({ frames := 1, cells := 0, slots := 0, locals := 23 }) (hq_Pc G vwCl aTs B h [.ref t0, .int p1]) (hq_Q G vwCl B (some (.int out.1)) out.2) 0 0 (fun q => B ≤ q) := by
  refine hq_enter (nL := 4) (by decide +kernel) (Nat.le_of_ble_eq_true rfl) ?_
  intro p e s m args below meth c C I ls hl
  have hl : lv_has ls 4 [(0, va_rf (some t0)), (1, .int p1)] := hl
  unfold f_MD_count at hf
  refine lv_iconst (v := 0) C.1.1 C.1.2.1 d_MD_count_0 (by decide) ?_
  refine lv_istore_n (i := 2) (lv' := [(2, .int (0 : Int32)), (0, va_rf (some t0)), (1, .int p1)]) C.1.1 C.1.2.1 d_MD_count_1 rfl hl (by decide) (by first | rfl | simp [hq_cat, hq_catI, hq_catL]) (fun ls hl => ?_)
  refine lv_iload_n C.1.1 C.1.2.1 d_MD_count_2 rfl (lv_at hl 2 rfl) ?_
  refine lv_iconst (v := 1) C.1.1 C.1.2.1 d_MD_count_3 (by decide) ?_
  refine lv_icmp_ne (tgt := 35) C.1.1 C.1.2.1 d_MD_count_4 (by decide) (fun c1 => ?_) (fun c1 => ?_)
  · rw [if_neg c1] at hf
    refine W.widen (k := 0) (n := 0) (by decide) (by decide) ?_
    exact k_MD_count_L35 C t0 p1 (0 : Int32) h _ hf _ _ I ls (lv_sub hl [1, 2, 0] rfl)
  · rw [if_pos c1] at hf
    refine lv_iconst (v := 0) C.1.1 C.1.2.1 d_MD_count_7 (by decide) ?_
    refine lv_istore_n (i := 3) (lv' := [(3, .int (0 : Int32)), (2, .int (0 : Int32)), (0, va_rf (some t0)), (1, .int p1)]) C.1.1 C.1.2.1 d_MD_count_8 rfl hl (by decide) (by first | rfl | simp [hq_cat, hq_catI, hq_catL]) (fun ls hl => ?_)
    refine W.widen (k := 0) (n := 0) (by decide) (by decide) ?_
    exact k_MD_count_L9 C FU t0 p1 (0 : Int32) (0 : Int32) h _ hf _ _ I ls (lv_sub hl [2, 3, 1, 0] rfl)
