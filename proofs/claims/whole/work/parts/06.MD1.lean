set_option maxRecDepth 100000 in
set_option maxHeartbeats 4000000 in
theorem k_MD_isRange_L141 {p : Program} {l : Launch} {e : Env} {s : State} {m : MethodId} {args : Array Value} {below : List Frame} {meth : Method} {c : Code} {G : hp_G} {B : Nat} (C : hq_C p s m args meth c b_MD_isRange 4 ((Option.some Jvm.ClassFile.FieldType.boolean)) "LayeredLauncherModel" "isRange" gt G vwCl aTs) : ∀ (t0 : Nat) (y2 : Int32) (y3 : Int32) (h : hp_H) (out : Int32 × hp_H), f_MD_isRange_L141 t0 y2 y3 h = some out → ∀ (H : Heap) (locs : List Loc), hp_I G vwCl B s.heap h H locs → ∀ ls : Array Slot, lv_has ls 4 [(0, va_rf (some t0)), (2, .int y2), (3, .int y3)] → W p l e ({ frames := 2, cells := 0, slots := 0, locals := 45 }) s m args below meth c H locs 0 0 (MQ below (hq_Q G vwCl B (some (.int out.1)) out.2) args s 0 0 (fun q => B ≤ q)) (F0 m 141 ls []) := by
  intro t0 y2 y3 h out hf H locs I ls hl
  unfold f_MD_isRange_L141 at hf
  refine lv_iload_n C.1.1 C.1.2.1 d_MD_isRange_141 rfl (lv_at hl 2 rfl) ?_
  refine lv_iload_n C.1.1 C.1.2.1 d_MD_isRange_142 rfl (lv_at hl 1 rfl) ?_
  refine lv_iconst (v := 2) C.1.1 C.1.2.1 d_MD_isRange_143 (by decide) ?_
  refine lv_isub C.1.1 C.1.2.1 d_MD_isRange_144 ?_
  refine lv_icmp_eq (tgt := 161) C.1.1 C.1.2.1 d_MD_isRange_145 (by decide) (fun c53 => ?_) (fun c53 => ?_)
  · rw [if_pos c53] at hf
    refine lv_iconst (v := 1) C.1.1 C.1.2.1 d_MD_isRange_161 (by decide) ?_
    refine lv_goto (tgt := 166) C.1.1 C.1.2.1 d_MD_isRange_162 (by decide) ?_
    cases hf
    exact hq_zret C I (hp_z_nar (x := 1) (Or.inr rfl)).1 (by decide) (by decide) d_MD_isRange_166
  · rw [if_neg c53] at hf
    refine hq_aload_n C.1.1 C.1.2.1 d_MD_isRange_148 rfl (lv_at hl 0 rfl) ?_
    refine lv_iload_n C.1.1 C.1.2.1 d_MD_isRange_149 rfl (lv_at hl 2 rfl) ?_
    refine lv_iconst (v := 1) C.1.1 C.1.2.1 d_MD_isRange_150 (by decide) ?_
    refine lv_iadd C.1.1 C.1.2.1 d_MD_isRange_151 ?_
    refine lv_iload_n C.1.1 C.1.2.1 d_MD_isRange_152 rfl (lv_at hl 1 rfl) ?_
    refine lv_iconst (v := 1) C.1.1 C.1.2.1 d_MD_isRange_153 (by decide) ?_
    refine lv_isub C.1.1 C.1.2.1 d_MD_isRange_154 ?_
    replace hf := Option.bind_eq_some_iff.mp hf
    obtain ⟨b56, e57, hf⟩ := hf
    obtain ⟨e57r, _, e57c⟩ := hp_o_inv e57
    cases e57r
    replace hf := Option.bind_eq_some_iff.mp hf
    obtain ⟨q54, e55, hf⟩ := hf
    refine hq_callW gt_good C I hl.1 (k_MD_isVersion l G B _ t0 (y3 + (1 : Int32)) (y2 - (1 : Int32)) q54 e55) M_MD_106 e57c rfl ⟨rfl, rfl⟩ ⟨Nat.le_of_ble_eq_true rfl, Nat.le_of_ble_eq_true rfl⟩ rfl (Nat.le_of_ble_eq_true rfl) d_MD_isRange_155 ⟨Nat.le_of_ble_eq_true rfl, Nat.le_of_ble_eq_true rfl⟩ (fun H locs I => ?_)
    refine W.widen (k := 0) (n := 0) (by decide) (by decide) ?_
    refine lv_if_eq (tgt := 165) C.1.1 C.1.2.1 d_MD_isRange_158 (by decide) (fun c58 => ?_) (fun c58 => ?_)
    · rw [if_pos c58] at hf
      refine lv_iconst (v := 0) C.1.1 C.1.2.1 d_MD_isRange_165 (by decide) ?_
      cases hf
      exact hq_zret C I (hp_z_nar (x := 0) (Or.inl rfl)).1 (by decide) (by decide) d_MD_isRange_166
    · rw [if_neg c58] at hf
      refine lv_iconst (v := 1) C.1.1 C.1.2.1 d_MD_isRange_161 (by decide) ?_
      refine lv_goto (tgt := 166) C.1.1 C.1.2.1 d_MD_isRange_162 (by decide) ?_
      cases hf
      exact hq_zret C I (hp_z_nar (x := 1) (Or.inr rfl)).1 (by decide) (by decide) d_MD_isRange_166
set_option maxRecDepth 100000 in
set_option maxHeartbeats 4000000 in
theorem k_MD_isRange_L68 {p : Program} {l : Launch} {e : Env} {s : State} {m : MethodId} {args : Array Value} {below : List Frame} {meth : Method} {c : Code} {G : hp_G} {B : Nat} (C : hq_C p s m args meth c b_MD_isRange 4 ((Option.some Jvm.ClassFile.FieldType.boolean)) "LayeredLauncherModel" "isRange" gt G vwCl aTs) : ∀ (t0 : Nat) (y1 : Int32) (y2 : Int32) (h : hp_H) (out : Int32 × hp_H), f_MD_isRange_L68 t0 y1 y2 h = some out → ∀ (H : Heap) (locs : List Loc), hp_I G vwCl B s.heap h H locs → ∀ ls : Array Slot, lv_has ls 4 [(0, va_rf (some t0)), (1, .int y1), (2, .int y2)] → W p l e ({ frames := 2, cells := 0, slots := 0, locals := 45 }) s m args below meth c H locs 0 0 (MQ below (hq_Q G vwCl B (some (.int out.1)) out.2) args s 0 0 (fun q => B ≤ q)) (F0 m 68 ls []) := by
  intro t0 y1 y2 h out hf H locs I ls hl
  unfold f_MD_isRange_L68 at hf
  refine hq_aload_n C.1.1 C.1.2.1 d_MD_isRange_68 rfl (lv_at hl 0 rfl) ?_
  refine lv_iload_n C.1.1 C.1.2.1 d_MD_isRange_69 rfl (lv_at hl 1 rfl) ?_
  refine lv_iload_n C.1.1 C.1.2.1 d_MD_isRange_70 rfl (lv_at hl 2 rfl) ?_
  replace hf := Option.bind_eq_some_iff.mp hf
  obtain ⟨b29, e30, hf⟩ := hf
  obtain ⟨e30r, _, e30c⟩ := hp_o_inv e30
  cases e30r
  replace hf := Option.bind_eq_some_iff.mp hf
  obtain ⟨q27, e28, hf⟩ := hf
  refine hq_callW gt_good C I hl.1 (k_MD_commaIn l G B _ t0 y1 y2 q27 e28) M_MD_110 e30c rfl ⟨rfl, rfl⟩ ⟨Nat.le_of_ble_eq_true rfl, Nat.le_of_ble_eq_true rfl⟩ rfl (Nat.le_of_ble_eq_true rfl) d_MD_isRange_71 ⟨Nat.le_of_ble_eq_true rfl, Nat.le_of_ble_eq_true rfl⟩ (fun H locs I => ?_)
  refine W.widen (k := 0) (n := 0) (by decide) (by decide) ?_
  refine lv_istore_n (i := 3) (lv' := [(3, .int q27.1), (0, va_rf (some t0)), (1, .int y1), (2, .int y2)]) C.1.1 C.1.2.1 d_MD_isRange_74 rfl hl (by decide) (by first | rfl | simp [hq_cat, hq_catI, hq_catL]) (fun ls hl => ?_)
  refine lv_iload_n C.1.1 C.1.2.1 d_MD_isRange_75 rfl (lv_at hl 0 rfl) ?_
  refine lv_iload_n C.1.1 C.1.2.1 d_MD_isRange_76 rfl (lv_at hl 3 rfl) ?_
  refine lv_icmp_ne (tgt := 123) C.1.1 C.1.2.1 d_MD_isRange_77 (by decide) (fun c31 => ?_) (fun c31 => ?_)
  · rw [if_neg c31] at hf
    refine lv_iload_n C.1.1 C.1.2.1 d_MD_isRange_123 rfl (lv_at hl 0 rfl) ?_
    refine lv_iload_n C.1.1 C.1.2.1 d_MD_isRange_124 rfl (lv_at hl 2 rfl) ?_
    refine lv_iconst (v := 1) C.1.1 C.1.2.1 d_MD_isRange_125 (by decide) ?_
    refine lv_iadd C.1.1 C.1.2.1 d_MD_isRange_126 ?_
    refine lv_icmp_eq (tgt := 141) C.1.1 C.1.2.1 d_MD_isRange_127 (by decide) (fun c32 => ?_) (fun c32 => ?_)
    · rw [if_pos c32] at hf
      refine W.widen (k := 0) (n := 0) (by decide) (by decide) ?_
      exact k_MD_isRange_L141 C t0 y2 q27.1 q27.2 _ hf _ _ I ls (lv_sub hl [1, 3, 0] rfl)
    · rw [if_neg c32] at hf
      refine hq_aload_n C.1.1 C.1.2.1 d_MD_isRange_130 rfl (lv_at hl 1 rfl) ?_
      refine lv_iload_n C.1.1 C.1.2.1 d_MD_isRange_131 rfl (lv_at hl 2 rfl) ?_
      refine lv_iconst (v := 1) C.1.1 C.1.2.1 d_MD_isRange_132 (by decide) ?_
      refine lv_iadd C.1.1 C.1.2.1 d_MD_isRange_133 ?_
      refine lv_iload_n C.1.1 C.1.2.1 d_MD_isRange_134 rfl (lv_at hl 0 rfl) ?_
      replace hf := Option.bind_eq_some_iff.mp hf
      obtain ⟨b35, e36, hf⟩ := hf
      obtain ⟨e36r, _, e36c⟩ := hp_o_inv e36
      cases e36r
      replace hf := Option.bind_eq_some_iff.mp hf
      obtain ⟨q33, e34, hf⟩ := hf
      refine hq_callW gt_good C I hl.1 (k_MD_isVersion l G B _ t0 (y1 + (1 : Int32)) q27.1 q33 e34) M_MD_106 e36c rfl ⟨rfl, rfl⟩ ⟨Nat.le_of_ble_eq_true rfl, Nat.le_of_ble_eq_true rfl⟩ rfl (Nat.le_of_ble_eq_true rfl) d_MD_isRange_135 ⟨Nat.le_of_ble_eq_true rfl, Nat.le_of_ble_eq_true rfl⟩ (fun H locs I => ?_)
      refine W.widen (k := 0) (n := 0) (by decide) (by decide) ?_
      refine lv_if_eq (tgt := 165) C.1.1 C.1.2.1 d_MD_isRange_138 (by decide) (fun c37 => ?_) (fun c37 => ?_)
      · rw [if_pos c37] at hf
        refine lv_iconst (v := 0) C.1.1 C.1.2.1 d_MD_isRange_165 (by decide) ?_
        cases hf
        exact hq_zret C I (hp_z_nar (x := 0) (Or.inl rfl)).1 (by decide) (by decide) d_MD_isRange_166
      · rw [if_neg c37] at hf
        refine W.widen (k := 0) (n := 0) (by decide) (by decide) ?_
        exact k_MD_isRange_L141 C t0 y2 q27.1 q33.2 _ hf _ _ I ls (lv_sub hl [1, 3, 0] rfl)
  · rw [if_pos c31] at hf
    refine hq_aload_n C.1.1 C.1.2.1 d_MD_isRange_80 rfl (lv_at hl 1 rfl) ?_
    replace hf := Option.bind_eq_some_iff.mp hf
    obtain ⟨x38, e39, hf⟩ := hf
    refine hq_getR C I F_MD_20 e39 d_MD_isRange_81 ?_
    refine lv_iload_n C.1.1 C.1.2.1 d_MD_isRange_84 rfl (lv_at hl 2 rfl) ?_
    replace hf := Option.bind_eq_some_iff.mp hf
    obtain ⟨x40, e41, hf⟩ := hf
    refine hq_iald C I (t := 0) rfl e41 d_MD_isRange_85 ?_
    refine lv_bipush (v := 91) C.1.1 C.1.2.1 d_MD_isRange_86 (by decide) ?_
    refine lv_icmp_ne (tgt := 121) C.1.1 C.1.2.1 d_MD_isRange_88 (by decide) (fun c42 => ?_) (fun c42 => ?_)
    · rw [if_neg c42] at hf
      refine lv_iconst (v := 0) C.1.1 C.1.2.1 d_MD_isRange_121 (by decide) ?_
      cases hf
      exact hq_zret C I (hp_z_nar (x := 0) (Or.inl rfl)).1 (by decide) (by decide) d_MD_isRange_122
    · rw [if_pos c42] at hf
      refine hq_aload_n C.1.1 C.1.2.1 d_MD_isRange_91 rfl (lv_at hl 1 rfl) ?_
      replace hf := Option.bind_eq_some_iff.mp hf
      obtain ⟨x43, e44, hf⟩ := hf
      refine hq_getR C I F_MD_20 e44 d_MD_isRange_92 ?_
      refine lv_iload_n C.1.1 C.1.2.1 d_MD_isRange_95 rfl (lv_at hl 3 rfl) ?_
      refine lv_iconst (v := 1) C.1.1 C.1.2.1 d_MD_isRange_96 (by decide) ?_
      refine lv_isub C.1.1 C.1.2.1 d_MD_isRange_97 ?_
      replace hf := Option.bind_eq_some_iff.mp hf
      obtain ⟨x45, e46, hf⟩ := hf
      refine hq_iald C I (t := 0) rfl e46 d_MD_isRange_98 ?_
      refine lv_bipush (v := 93) C.1.1 C.1.2.1 d_MD_isRange_99 (by decide) ?_
      refine lv_icmp_ne (tgt := 121) C.1.1 C.1.2.1 d_MD_isRange_101 (by decide) (fun c47 => ?_) (fun c47 => ?_)
      · rw [if_neg c47] at hf
        refine lv_iconst (v := 0) C.1.1 C.1.2.1 d_MD_isRange_121 (by decide) ?_
        cases hf
        exact hq_zret C I (hp_z_nar (x := 0) (Or.inl rfl)).1 (by decide) (by decide) d_MD_isRange_122
      · rw [if_pos c47] at hf
        refine hq_aload_n C.1.1 C.1.2.1 d_MD_isRange_104 rfl (lv_at hl 1 rfl) ?_
        refine lv_iload_n C.1.1 C.1.2.1 d_MD_isRange_105 rfl (lv_at hl 2 rfl) ?_
        refine lv_iconst (v := 1) C.1.1 C.1.2.1 d_MD_isRange_106 (by decide) ?_
        refine lv_iadd C.1.1 C.1.2.1 d_MD_isRange_107 ?_
        refine lv_iload_n C.1.1 C.1.2.1 d_MD_isRange_108 rfl (lv_at hl 3 rfl) ?_
        refine lv_iconst (v := 1) C.1.1 C.1.2.1 d_MD_isRange_109 (by decide) ?_
        refine lv_isub C.1.1 C.1.2.1 d_MD_isRange_110 ?_
        replace hf := Option.bind_eq_some_iff.mp hf
        obtain ⟨b50, e51, hf⟩ := hf
        obtain ⟨e51r, _, e51c⟩ := hp_o_inv e51
        cases e51r
        replace hf := Option.bind_eq_some_iff.mp hf
        obtain ⟨q48, e49, hf⟩ := hf
        refine hq_callW gt_good C I hl.1 (k_MD_isVersion l G B _ t0 (y1 + (1 : Int32)) (y2 - (1 : Int32)) q48 e49) M_MD_106 e51c rfl ⟨rfl, rfl⟩ ⟨Nat.le_of_ble_eq_true rfl, Nat.le_of_ble_eq_true rfl⟩ rfl (Nat.le_of_ble_eq_true rfl) d_MD_isRange_111 ⟨Nat.le_of_ble_eq_true rfl, Nat.le_of_ble_eq_true rfl⟩ (fun H locs I => ?_)
        refine W.widen (k := 0) (n := 0) (by decide) (by decide) ?_
        refine lv_if_eq (tgt := 121) C.1.1 C.1.2.1 d_MD_isRange_114 (by decide) (fun c52 => ?_) (fun c52 => ?_)
        · rw [if_pos c52] at hf
          refine lv_iconst (v := 0) C.1.1 C.1.2.1 d_MD_isRange_121 (by decide) ?_
          cases hf
          exact hq_zret C I (hp_z_nar (x := 0) (Or.inl rfl)).1 (by decide) (by decide) d_MD_isRange_122
        · rw [if_neg c52] at hf
          refine lv_iconst (v := 1) C.1.1 C.1.2.1 d_MD_isRange_117 (by decide) ?_
          refine lv_goto (tgt := 122) C.1.1 C.1.2.1 d_MD_isRange_118 (by decide) ?_
          cases hf
          exact hq_zret C I (hp_z_nar (x := 1) (Or.inr rfl)).1 (by decide) (by decide) d_MD_isRange_122
set_option maxRecDepth 100000 in
set_option maxHeartbeats 4000000 in
theorem k_MD_isRange_L40 {p : Program} {l : Launch} {e : Env} {s : State} {m : MethodId} {args : Array Value} {below : List Frame} {meth : Method} {c : Code} {G : hp_G} {B : Nat} (C : hq_C p s m args meth c b_MD_isRange 4 ((Option.some Jvm.ClassFile.FieldType.boolean)) "LayeredLauncherModel" "isRange" gt G vwCl aTs) : ∀ (t0 : Nat) (y1 : Int32) (y2 : Int32) (h : hp_H) (out : Int32 × hp_H), f_MD_isRange_L40 t0 y1 y2 h = some out → ∀ (H : Heap) (locs : List Loc), hp_I G vwCl B s.heap h H locs → ∀ ls : Array Slot, lv_has ls 4 [(0, va_rf (some t0)), (1, .int y1), (2, .int y2)] → W p l e ({ frames := 2, cells := 0, slots := 0, locals := 45 }) s m args below meth c H locs 0 0 (MQ below (hq_Q G vwCl B (some (.int out.1)) out.2) args s 0 0 (fun q => B ≤ q)) (F0 m 40 ls []) := by
  intro t0 y1 y2 h out hf H locs I ls hl
  unfold f_MD_isRange_L40 at hf
  refine hq_aload_n C.1.1 C.1.2.1 d_MD_isRange_40 rfl (lv_at hl 0 rfl) ?_
  replace hf := Option.bind_eq_some_iff.mp hf
  obtain ⟨x17, e18, hf⟩ := hf
  refine hq_getR C I F_MD_20 e18 d_MD_isRange_41 ?_
  refine lv_iload_n C.1.1 C.1.2.1 d_MD_isRange_44 rfl (lv_at hl 2 rfl) ?_
  refine lv_iconst (v := 1) C.1.1 C.1.2.1 d_MD_isRange_45 (by decide) ?_
  refine lv_isub C.1.1 C.1.2.1 d_MD_isRange_46 ?_
  replace hf := Option.bind_eq_some_iff.mp hf
  obtain ⟨x19, e20, hf⟩ := hf
  refine hq_iald C I (t := 0) rfl e20 d_MD_isRange_47 ?_
  refine lv_bipush (v := 93) C.1.1 C.1.2.1 d_MD_isRange_48 (by decide) ?_
  refine lv_icmp_eq (tgt := 68) C.1.1 C.1.2.1 d_MD_isRange_50 (by decide) (fun c21 => ?_) (fun c21 => ?_)
  · rw [if_pos c21] at hf
    refine W.widen (k := 0) (n := 0) (by decide) (by decide) ?_
    exact k_MD_isRange_L68 C t0 y1 y2 h _ hf _ _ I ls (lv_sub hl [0, 1, 2] rfl)
  · rw [if_neg c21] at hf
    refine hq_aload_n C.1.1 C.1.2.1 d_MD_isRange_53 rfl (lv_at hl 0 rfl) ?_
    replace hf := Option.bind_eq_some_iff.mp hf
    obtain ⟨x22, e23, hf⟩ := hf
    refine hq_getR C I F_MD_20 e23 d_MD_isRange_54 ?_
    refine lv_iload_n C.1.1 C.1.2.1 d_MD_isRange_57 rfl (lv_at hl 2 rfl) ?_
    refine lv_iconst (v := 1) C.1.1 C.1.2.1 d_MD_isRange_58 (by decide) ?_
    refine lv_isub C.1.1 C.1.2.1 d_MD_isRange_59 ?_
    replace hf := Option.bind_eq_some_iff.mp hf
    obtain ⟨x24, e25, hf⟩ := hf
    refine hq_iald C I (t := 0) rfl e25 d_MD_isRange_60 ?_
    refine lv_bipush (v := 41) C.1.1 C.1.2.1 d_MD_isRange_61 (by decide) ?_
    refine lv_icmp_eq (tgt := 68) C.1.1 C.1.2.1 d_MD_isRange_63 (by decide) (fun c26 => ?_) (fun c26 => ?_)
    · rw [if_pos c26] at hf
      refine W.widen (k := 0) (n := 0) (by decide) (by decide) ?_
      exact k_MD_isRange_L68 C t0 y1 y2 h _ hf _ _ I ls (lv_sub hl [0, 1, 2] rfl)
    · rw [if_neg c26] at hf
      refine lv_iconst (v := 0) C.1.1 C.1.2.1 d_MD_isRange_66 (by decide) ?_
      cases hf
      exact hq_zret C I (hp_z_nar (x := 0) (Or.inl rfl)).1 (by decide) (by decide) d_MD_isRange_67
set_option maxRecDepth 100000 in
set_option maxHeartbeats 4000000 in
theorem k_MD_isRange (l : Launch) (G : hp_G) (B : Nat) (h : hp_H) (t0 : Nat) (p1 : Int32) (p2 : Int32) (out : Int32 × hp_H) (hf : f_MD_isRange h t0 p1 p2 = some out) : Met l y_MD_isRange (.code y_MD_isRange b_MD_isRange 4 ((Option.some Jvm.ClassFile.FieldType.boolean)) :: gt) ({ frames := 2, cells := 0, slots := 0, locals := 45 }) (hq_Pc G vwCl aTs B h [.ref t0, .int p1, .int p2]) (hq_Q G vwCl B (some (.int out.1)) out.2) 0 0 (fun q => B ≤ q) := by
  refine hq_enter (nL := 4) (by decide +kernel) (Nat.le_of_ble_eq_true rfl) ?_
  intro p e s m args below meth c C I ls hl
  have hl : lv_has ls 4 [(0, va_rf (some t0)), (1, .int p1), (2, .int p2)] := hl
  unfold f_MD_isRange at hf
  refine hq_aload_n C.1.1 C.1.2.1 d_MD_isRange_0 rfl (lv_at hl 0 rfl) ?_
  refine lv_iload_n C.1.1 C.1.2.1 d_MD_isRange_1 rfl (lv_at hl 1 rfl) ?_
  refine lv_iload_n C.1.1 C.1.2.1 d_MD_isRange_2 rfl (lv_at hl 2 rfl) ?_
  replace hf := Option.bind_eq_some_iff.mp hf
  obtain ⟨b3, e4, hf⟩ := hf
  obtain ⟨e4r, _, e4c⟩ := hp_o_inv e4
  cases e4r
  replace hf := Option.bind_eq_some_iff.mp hf
  obtain ⟨q1, e2, hf⟩ := hf
  refine hq_callW gt_good C I hl.1 (k_MD_isVersion l G B _ t0 p1 p2 q1 e2) M_MD_106 e4c rfl ⟨rfl, rfl⟩ ⟨Nat.le_of_ble_eq_true rfl, Nat.le_of_ble_eq_true rfl⟩ rfl (Nat.le_of_ble_eq_true rfl) d_MD_isRange_3 ⟨Nat.le_of_ble_eq_true rfl, Nat.le_of_ble_eq_true rfl⟩ (fun H locs I => ?_)
  refine W.widen (k := 0) (n := 0) (by decide) (by decide) ?_
  refine lv_if_eq (tgt := 11) C.1.1 C.1.2.1 d_MD_isRange_6 (by decide) (fun c5 => ?_) (fun c5 => ?_)
  · rw [if_pos c5] at hf
    refine lv_iload_n C.1.1 C.1.2.1 d_MD_isRange_11 rfl (lv_at hl 2 rfl) ?_
    refine lv_iload_n C.1.1 C.1.2.1 d_MD_isRange_12 rfl (lv_at hl 1 rfl) ?_
    refine lv_isub C.1.1 C.1.2.1 d_MD_isRange_13 ?_
    refine lv_iconst (v := 3) C.1.1 C.1.2.1 d_MD_isRange_14 (by decide) ?_
    refine lv_icmp_lt (tgt := 66) C.1.1 C.1.2.1 d_MD_isRange_15 (by decide) (fun c6 => ?_) (fun c6 => ?_)
    · rw [if_pos c6] at hf
      refine lv_iconst (v := 0) C.1.1 C.1.2.1 d_MD_isRange_66 (by decide) ?_
      cases hf
      exact hq_zret C I (hp_z_nar (x := 0) (Or.inl rfl)).1 (by decide) (by decide) d_MD_isRange_67
    · rw [if_neg c6] at hf
      refine hq_aload_n C.1.1 C.1.2.1 d_MD_isRange_18 rfl (lv_at hl 0 rfl) ?_
      replace hf := Option.bind_eq_some_iff.mp hf
      obtain ⟨x7, e8, hf⟩ := hf
      refine hq_getR C I F_MD_20 e8 d_MD_isRange_19 ?_
      refine lv_iload_n C.1.1 C.1.2.1 d_MD_isRange_22 rfl (lv_at hl 1 rfl) ?_
      replace hf := Option.bind_eq_some_iff.mp hf
      obtain ⟨x9, e10, hf⟩ := hf
      refine hq_iald C I (t := 0) rfl e10 d_MD_isRange_23 ?_
      refine lv_bipush (v := 91) C.1.1 C.1.2.1 d_MD_isRange_24 (by decide) ?_
      refine lv_icmp_eq (tgt := 40) C.1.1 C.1.2.1 d_MD_isRange_26 (by decide) (fun c11 => ?_) (fun c11 => ?_)
      · rw [if_pos c11] at hf
        refine W.widen (k := 0) (n := 0) (by decide) (by decide) ?_
        exact k_MD_isRange_L40 C t0 p1 p2 q1.2 _ hf _ _ I ls (lv_sub hl [0, 1, 2] rfl)
      · rw [if_neg c11] at hf
        refine hq_aload_n C.1.1 C.1.2.1 d_MD_isRange_29 rfl (lv_at hl 0 rfl) ?_
        replace hf := Option.bind_eq_some_iff.mp hf
        obtain ⟨x12, e13, hf⟩ := hf
        refine hq_getR C I F_MD_20 e13 d_MD_isRange_30 ?_
        refine lv_iload_n C.1.1 C.1.2.1 d_MD_isRange_33 rfl (lv_at hl 1 rfl) ?_
        replace hf := Option.bind_eq_some_iff.mp hf
        obtain ⟨x14, e15, hf⟩ := hf
        refine hq_iald C I (t := 0) rfl e15 d_MD_isRange_34 ?_
        refine lv_bipush (v := 40) C.1.1 C.1.2.1 d_MD_isRange_35 (by decide) ?_
        refine lv_icmp_ne (tgt := 66) C.1.1 C.1.2.1 d_MD_isRange_37 (by decide) (fun c16 => ?_) (fun c16 => ?_)
        · rw [if_neg c16] at hf
          refine lv_iconst (v := 0) C.1.1 C.1.2.1 d_MD_isRange_66 (by decide) ?_
          cases hf
          exact hq_zret C I (hp_z_nar (x := 0) (Or.inl rfl)).1 (by decide) (by decide) d_MD_isRange_67
        · rw [if_pos c16] at hf
          refine W.widen (k := 0) (n := 0) (by decide) (by decide) ?_
          exact k_MD_isRange_L40 C t0 p1 p2 q1.2 _ hf _ _ I ls (lv_sub hl [0, 1, 2] rfl)
  · rw [if_neg c5] at hf
    refine lv_iconst (v := 1) C.1.1 C.1.2.1 d_MD_isRange_9 (by decide) ?_
    cases hf
    exact hq_zret C I (hp_z_nar (x := 1) (Or.inr rfl)).1 (by decide) (by decide) d_MD_isRange_10
set_option maxRecDepth 100000 in
set_option maxHeartbeats 4000000 in
theorem k_MD_part_L157 {p : Program} {l : Launch} {e : Env} {s : State} {m : MethodId} {args : Array Value} {below : List Frame} {meth : Method} {c : Code} {G : hp_G} {B : Nat} (C : hq_C p s m args meth c b_MD_part 9 ((Option.some Jvm.ClassFile.FieldType.int)) "LayeredLauncherModel" "part" gt G vwCl aTs) (k22 : Nat → Int32 → Int32 → Int32 → Int32 → Int32 → hp_H → Option (Int32 × hp_H)) (hk22 : ∀ (t0 : Nat) (y1 : Int32) (y2 : Int32) (y3 : Int32) (y4 : Int32) (y5 : Int32) (h : hp_H) (out : Int32 × hp_H), k22 t0 y1 y2 y3 y4 y5 h = some out → ∀ (H : Heap) (locs : List Loc), hp_I G vwCl B s.heap h H locs → ∀ ls : Array Slot, lv_has ls 9 [(0, va_rf (some t0)), (1, .int y1), (2, .int y2), (3, .int y3), (4, .int y4), (5, .int y5)] → W p l e ({ frames := 1, cells := 0, slots := 0, locals := 21 }) s m args below meth c H locs 0 0 (MQ below (hq_Q G vwCl B (some (.int out.1)) out.2) args s 0 0 (fun q => B ≤ q)) (F0 m 22 ls [])) : ∀ (t0 : Nat) (y1 : Int32) (y2 : Int32) (y3 : Int32) (y4 : Int32) (y5 : Int32) (y6 : Int32) (y7 : Int32) (h : hp_H) (out : Int32 × hp_H), f_MD_part_L157 k22 t0 y1 y2 y3 y4 y5 y6 y7 h = some out → ∀ (H : Heap) (locs : List Loc), hp_I G vwCl B s.heap h H locs → ∀ ls : Array Slot, lv_has ls 9 [(0, va_rf (some t0)), (1, .int y1), (2, .int y2), (3, .int y3), (4, .int y4), (5, .int y5), (6, .int y6), (7, .int y7)] → W p l e ({ frames := 1, cells := 0, slots := 0, locals := 21 }) s m args below meth c H locs 0 0 (MQ below (hq_Q G vwCl B (some (.int out.1)) out.2) args s 0 0 (fun q => B ≤ q)) (F0 m 157 ls []) := by
  intro t0 y1 y2 y3 y4 y5 y6 y7 h out hf H locs I ls hl
  unfold f_MD_part_L157 at hf
  refine hq_aload_n C.1.1 C.1.2.1 d_MD_part_157 rfl (lv_at hl 0 rfl) ?_
  refine lv_iload C.1.1 C.1.2.1 d_MD_part_158 (lv_at hl 6 rfl) ?_
  replace hf := Option.bind_eq_some_iff.mp hf
  obtain ⟨b42, e43, hf⟩ := hf
  obtain ⟨e43r, _, e43c⟩ := hp_o_inv e43
  cases e43r
  replace hf := Option.bind_eq_some_iff.mp hf
  obtain ⟨q40, e41, hf⟩ := hf
  refine hq_callW gt_good C I hl.1 (k_MD_isMark l G B _ t0 y6 q40 e41) M_MD_103 e43c rfl ⟨rfl, rfl⟩ ⟨Nat.le_of_ble_eq_true rfl, Nat.le_of_ble_eq_true rfl⟩ rfl (Nat.le_of_ble_eq_true rfl) d_MD_part_160 ⟨Nat.le_of_ble_eq_true rfl, Nat.le_of_ble_eq_true rfl⟩ (fun H locs I => ?_)
  refine W.widen (k := 0) (n := 0) (by decide) (by decide) ?_
  refine lv_if_ne (tgt := 181) C.1.1 C.1.2.1 d_MD_part_163 (by decide) (fun c44 => ?_) (fun c44 => ?_)
  · rw [if_neg c44] at hf
    refine lv_goto (tgt := 22) C.1.1 C.1.2.1 d_MD_part_181 (by decide) ?_
    refine W.widen (k := 0) (n := 0) (by decide) (by decide) ?_
    exact hk22 t0 y1 y2 y3 y4 y5 q40.2 _ hf _ _ I ls (lv_sub hl [0, 1, 2, 3, 4, 5] rfl)
  · rw [if_pos c44] at hf
    refine lv_iload C.1.1 C.1.2.1 d_MD_part_166 (lv_at hl 5 rfl) ?_
    refine lv_iload_n C.1.1 C.1.2.1 d_MD_part_168 rfl (lv_at hl 2 rfl) ?_
    refine lv_icmp_ne (tgt := 181) C.1.1 C.1.2.1 d_MD_part_169 (by decide) (fun c45 => ?_) (fun c45 => ?_)
    · rw [if_neg c45] at hf
      refine lv_goto (tgt := 22) C.1.1 C.1.2.1 d_MD_part_181 (by decide) ?_
      refine W.widen (k := 0) (n := 0) (by decide) (by decide) ?_
      exact hk22 t0 y1 y2 y3 y4 y5 q40.2 _ hf _ _ I ls (lv_sub hl [0, 1, 2, 3, 4, 5] rfl)
    · rw [if_pos c45] at hf
      refine hq_aload_n C.1.1 C.1.2.1 d_MD_part_172 rfl (lv_at hl 0 rfl) ?_
      refine lv_iload C.1.1 C.1.2.1 d_MD_part_173 (lv_at hl 4 rfl) ?_
      replace hf := Option.bind_eq_some_iff.mp hf
      obtain ⟨h46, e47, hf⟩ := hf
      refine hq_put C I F_MD_96 e47 rfl rfl d_MD_part_175 (fun H locs I => ?_)
      refine lv_iload C.1.1 C.1.2.1 d_MD_part_178 (lv_at hl 7 rfl) ?_
      cases hf
      exact hq_iret C I (by decide) (by decide) d_MD_part_180
set_option maxRecDepth 100000 in
set_option maxHeartbeats 4000000 in
theorem k_MD_part_L143 {p : Program} {l : Launch} {e : Env} {s : State} {m : MethodId} {args : Array Value} {below : List Frame} {meth : Method} {c : Code} {G : hp_G} {B : Nat} (C : hq_C p s m args meth c b_MD_part 9 ((Option.some Jvm.ClassFile.FieldType.int)) "LayeredLauncherModel" "part" gt G vwCl aTs) (k22 : Nat → Int32 → Int32 → Int32 → Int32 → Int32 → hp_H → Option (Int32 × hp_H)) (hk22 : ∀ (t0 : Nat) (y1 : Int32) (y2 : Int32) (y3 : Int32) (y4 : Int32) (y5 : Int32) (h : hp_H) (out : Int32 × hp_H), k22 t0 y1 y2 y3 y4 y5 h = some out → ∀ (H : Heap) (locs : List Loc), hp_I G vwCl B s.heap h H locs → ∀ ls : Array Slot, lv_has ls 9 [(0, va_rf (some t0)), (1, .int y1), (2, .int y2), (3, .int y3), (4, .int y4), (5, .int y5)] → W p l e ({ frames := 1, cells := 0, slots := 0, locals := 21 }) s m args below meth c H locs 0 0 (MQ below (hq_Q G vwCl B (some (.int out.1)) out.2) args s 0 0 (fun q => B ≤ q)) (F0 m 22 ls [])) (k78 : Nat → Int32 → Int32 → Int32 → Int32 → Int32 → Int32 → Int32 → Int32 → hp_H → Option (Int32 × hp_H)) (hk78 : ∀ (t0 : Nat) (y1 : Int32) (y2 : Int32) (y3 : Int32) (y4 : Int32) (y5 : Int32) (y6 : Int32) (y7 : Int32) (y8 : Int32) (h : hp_H) (out : Int32 × hp_H), k78 t0 y1 y2 y3 y4 y5 y6 y7 y8 h = some out → ∀ (H : Heap) (locs : List Loc), hp_I G vwCl B s.heap h H locs → ∀ ls : Array Slot, lv_has ls 9 [(0, va_rf (some t0)), (1, .int y1), (2, .int y2), (3, .int y3), (4, .int y4), (5, .int y5), (6, .int y6), (7, .int y7), (8, .int y8)] → W p l e ({ frames := 1, cells := 0, slots := 0, locals := 21 }) s m args below meth c H locs 0 0 (MQ below (hq_Q G vwCl B (some (.int out.1)) out.2) args s 0 0 (fun q => B ≤ q)) (F0 m 78 ls [])) : ∀ (t0 : Nat) (y1 : Int32) (y2 : Int32) (y3 : Int32) (y4 : Int32) (y5 : Int32) (y6 : Int32) (y7 : Int32) (y8 : Int32) (s0 : Int32) (s1 : Option Nat) (h : hp_H) (out : Int32 × hp_H), f_MD_part_L143 k22 k78 t0 y1 y2 y3 y4 y5 y6 y7 y8 s0 s1 h = some out → ∀ (H : Heap) (locs : List Loc), hp_I G vwCl B s.heap h H locs → ∀ ls : Array Slot, lv_has ls 9 [(0, va_rf (some t0)), (1, .int y1), (2, .int y2), (3, .int y3), (4, .int y4), (5, .int y5), (6, .int y6), (7, .int y7), (8, .int y8)] → W p l e ({ frames := 1, cells := 0, slots := 0, locals := 21 }) s m args below meth c H locs 0 0 (MQ below (hq_Q G vwCl B (some (.int out.1)) out.2) args s 0 0 (fun q => B ≤ q)) (F0 m 143 ls [.int s0, va_rf s1]) := by
  intro t0 y1 y2 y3 y4 y5 y6 y7 y8 s0 s1 h out hf H locs I ls hl
  unfold f_MD_part_L143 at hf
  replace hf := Option.bind_eq_some_iff.mp hf
  obtain ⟨b64, e65, hf⟩ := hf
  obtain ⟨e65r, _, e65c⟩ := hp_o_inv e65
  replace hf := Option.bind_eq_some_iff.mp hf
  obtain ⟨q62, e63, hf⟩ := hf
  refine hq_callW gt_good C I hl.1 (k_MD_isDigit l G B _ b64 s0 q62 e63) M_MD_99 e65c e65r ⟨rfl, rfl⟩ ⟨Nat.le_of_ble_eq_true rfl, Nat.le_of_ble_eq_true rfl⟩ rfl (Nat.le_of_ble_eq_true rfl) d_MD_part_143 ⟨Nat.le_of_ble_eq_true rfl, Nat.le_of_ble_eq_true rfl⟩ (fun H locs I => ?_)
  refine W.widen (k := 0) (n := 0) (by decide) (by decide) ?_
  refine lv_iload C.1.1 C.1.2.1 d_MD_part_146 (lv_at hl 8 rfl) ?_
  refine lv_icmp_ne (tgt := 157) C.1.1 C.1.2.1 d_MD_part_148 (by decide) (fun c66 => ?_) (fun c66 => ?_)
  · rw [if_neg c66] at hf
    refine W.widen (k := 0) (n := 0) (by decide) (by decide) ?_
    exact k_MD_part_L157 C _ hk22 t0 y1 y2 y3 y4 y5 y6 y7 q62.2 _ hf _ _ I ls (lv_sub hl [0, 1, 2, 3, 4, 5, 6, 7] rfl)
  · rw [if_pos c66] at hf
    refine lv_iinc (v := (y4 + 1)) (lv' := [(4, .int (y4 + 1)), (0, va_rf (some t0)), (1, .int y1), (2, .int y2), (3, .int y3), (5, .int y5), (6, .int y6), (7, .int y7), (8, .int y8)]) C.1.1 C.1.2.1 d_MD_part_151 hl (k := 4) rfl rfl (by decide) (by first | rfl | simp [hq_cat, hq_catI, hq_catL]) (fun ls hl => ?_)
    refine lv_goto (tgt := 78) C.1.1 C.1.2.1 d_MD_part_154 (by decide) ?_
    refine W.widen (k := 0) (n := 0) (by decide) (by decide) ?_
    exact hk78 t0 y1 y2 y3 (y4 + 1) y5 y6 y7 y8 q62.2 _ hf _ _ I ls (lv_sub hl [1, 2, 3, 4, 0, 5, 6, 7, 8] rfl)
set_option maxRecDepth 100000 in
set_option maxHeartbeats 4000000 in
theorem k_MD_part_L115 {p : Program} {l : Launch} {e : Env} {s : State} {m : MethodId} {args : Array Value} {below : List Frame} {meth : Method} {c : Code} {G : hp_G} {B : Nat} (C : hq_C p s m args meth c b_MD_part 9 ((Option.some Jvm.ClassFile.FieldType.int)) "LayeredLauncherModel" "part" gt G vwCl aTs) (k22 : Nat → Int32 → Int32 → Int32 → Int32 → Int32 → hp_H → Option (Int32 × hp_H)) (hk22 : ∀ (t0 : Nat) (y1 : Int32) (y2 : Int32) (y3 : Int32) (y4 : Int32) (y5 : Int32) (h : hp_H) (out : Int32 × hp_H), k22 t0 y1 y2 y3 y4 y5 h = some out → ∀ (H : Heap) (locs : List Loc), hp_I G vwCl B s.heap h H locs → ∀ ls : Array Slot, lv_has ls 9 [(0, va_rf (some t0)), (1, .int y1), (2, .int y2), (3, .int y3), (4, .int y4), (5, .int y5)] → W p l e ({ frames := 1, cells := 0, slots := 0, locals := 21 }) s m args below meth c H locs 0 0 (MQ below (hq_Q G vwCl B (some (.int out.1)) out.2) args s 0 0 (fun q => B ≤ q)) (F0 m 22 ls [])) (k78 : Nat → Int32 → Int32 → Int32 → Int32 → Int32 → Int32 → Int32 → Int32 → hp_H → Option (Int32 × hp_H)) (hk78 : ∀ (t0 : Nat) (y1 : Int32) (y2 : Int32) (y3 : Int32) (y4 : Int32) (y5 : Int32) (y6 : Int32) (y7 : Int32) (y8 : Int32) (h : hp_H) (out : Int32 × hp_H), k78 t0 y1 y2 y3 y4 y5 y6 y7 y8 h = some out → ∀ (H : Heap) (locs : List Loc), hp_I G vwCl B s.heap h H locs → ∀ ls : Array Slot, lv_has ls 9 [(0, va_rf (some t0)), (1, .int y1), (2, .int y2), (3, .int y3), (4, .int y4), (5, .int y5), (6, .int y6), (7, .int y7), (8, .int y8)] → W p l e ({ frames := 1, cells := 0, slots := 0, locals := 21 }) s m args below meth c H locs 0 0 (MQ below (hq_Q G vwCl B (some (.int out.1)) out.2) args s 0 0 (fun q => B ≤ q)) (F0 m 78 ls [])) : ∀ (t0 : Nat) (y1 : Int32) (y2 : Int32) (y3 : Int32) (y4 : Int32) (y5 : Int32) (y6 : Int32) (y7 : Int32) (y8 : Int32) (s0 : Int32) (s1 : Option Nat) (h : hp_H) (out : Int32 × hp_H), f_MD_part_L115 k22 k78 t0 y1 y2 y3 y4 y5 y6 y7 y8 s0 s1 h = some out → ∀ (H : Heap) (locs : List Loc), hp_I G vwCl B s.heap h H locs → ∀ ls : Array Slot, lv_has ls 9 [(0, va_rf (some t0)), (1, .int y1), (2, .int y2), (3, .int y3), (4, .int y4), (5, .int y5), (6, .int y6), (7, .int y7), (8, .int y8)] → W p l e ({ frames := 1, cells := 0, slots := 0, locals := 21 }) s m args below meth c H locs 0 0 (MQ below (hq_Q G vwCl B (some (.int out.1)) out.2) args s 0 0 (fun q => B ≤ q)) (F0 m 115 ls [.int s0, va_rf s1]) := by
  intro t0 y1 y2 y3 y4 y5 y6 y7 y8 s0 s1 h out hf H locs I ls hl
  unfold f_MD_part_L115 at hf
  replace hf := Option.bind_eq_some_iff.mp hf
  obtain ⟨b50, e51, hf⟩ := hf
  obtain ⟨e51r, _, e51c⟩ := hp_o_inv e51
  replace hf := Option.bind_eq_some_iff.mp hf
  obtain ⟨q48, e49, hf⟩ := hf
  refine hq_callW gt_good C I hl.1 (k_MD_isMark l G B _ b50 s0 q48 e49) M_MD_103 e51c e51r ⟨rfl, rfl⟩ ⟨Nat.le_of_ble_eq_true rfl, Nat.le_of_ble_eq_true rfl⟩ rfl (Nat.le_of_ble_eq_true rfl) d_MD_part_115 ⟨Nat.le_of_ble_eq_true rfl, Nat.le_of_ble_eq_true rfl⟩ (fun H locs I => ?_)
  refine W.widen (k := 0) (n := 0) (by decide) (by decide) ?_
  refine lv_if_ne (tgt := 157) C.1.1 C.1.2.1 d_MD_part_118 (by decide) (fun c52 => ?_) (fun c52 => ?_)
  · rw [if_neg c52] at hf
    refine W.widen (k := 0) (n := 0) (by decide) (by decide) ?_
    exact k_MD_part_L157 C _ hk22 t0 y1 y2 y3 y4 y5 y6 y7 q48.2 _ hf _ _ I ls (lv_sub hl [0, 1, 2, 3, 4, 5, 6, 7] rfl)
  · rw [if_pos c52] at hf
    refine hq_aload_n C.1.1 C.1.2.1 d_MD_part_121 rfl (lv_at hl 0 rfl) ?_
    refine lv_iload_n C.1.1 C.1.2.1 d_MD_part_122 rfl (lv_at hl 1 rfl) ?_
    refine lv_if_eq (tgt := 136) C.1.1 C.1.2.1 d_MD_part_123 (by decide) (fun c53 => ?_) (fun c53 => ?_)
    · rw [if_pos c53] at hf
      refine hq_aload_n C.1.1 C.1.2.1 d_MD_part_136 rfl (lv_at hl 0 rfl) ?_
      replace hf := Option.bind_eq_some_iff.mp hf
      obtain ⟨x54, e55, hf⟩ := hf
      refine hq_getR C I F_MD_90 e55 d_MD_part_137 ?_
      refine lv_iload C.1.1 C.1.2.1 d_MD_part_140 (lv_at hl 4 rfl) ?_
      replace hf := Option.bind_eq_some_iff.mp hf
      obtain ⟨x56, e57, hf⟩ := hf
      refine hq_iald C I (t := 0) rfl e57 d_MD_part_142 ?_
      refine W.widen (k := 0) (n := 0) (by decide) (by decide) ?_
      exact k_MD_part_L143 C _ hk22 _ hk78 t0 y1 y2 y3 y4 y5 y6 y7 y8 x56 (some t0) q48.2 _ hf _ _ I ls (lv_sub hl [0, 1, 2, 3, 4, 5, 6, 7, 8] rfl)
    · rw [if_neg c53] at hf
      refine hq_aload_n C.1.1 C.1.2.1 d_MD_part_126 rfl (lv_at hl 0 rfl) ?_
      replace hf := Option.bind_eq_some_iff.mp hf
      obtain ⟨x58, e59, hf⟩ := hf
      refine hq_getR C I F_MD_84 e59 d_MD_part_127 ?_
      refine lv_iload C.1.1 C.1.2.1 d_MD_part_130 (lv_at hl 4 rfl) ?_
      replace hf := Option.bind_eq_some_iff.mp hf
      obtain ⟨x60, e61, hf⟩ := hf
      refine hq_iald C I (t := 0) rfl e61 d_MD_part_132 ?_
      refine lv_goto (tgt := 143) C.1.1 C.1.2.1 d_MD_part_133 (by decide) ?_
      refine W.widen (k := 0) (n := 0) (by decide) (by decide) ?_
      exact k_MD_part_L143 C _ hk22 _ hk78 t0 y1 y2 y3 y4 y5 y6 y7 y8 x60 (some t0) q48.2 _ hf _ _ I ls (lv_sub hl [0, 1, 2, 3, 4, 5, 6, 7, 8] rfl)
set_option maxRecDepth 100000 in
set_option maxHeartbeats 4000000 in
theorem k_MD_part_L78 {p : Program} {l : Launch} {e : Env} {s : State} {m : MethodId} {args : Array Value} {below : List Frame} {meth : Method} {c : Code} {G : hp_G} {B : Nat} (C : hq_C p s m args meth c b_MD_part 9 ((Option.some Jvm.ClassFile.FieldType.int)) "LayeredLauncherModel" "part" gt G vwCl aTs) (k22 : Nat → Int32 → Int32 → Int32 → Int32 → Int32 → hp_H → Option (Int32 × hp_H)) (hk22 : ∀ (t0 : Nat) (y1 : Int32) (y2 : Int32) (y3 : Int32) (y4 : Int32) (y5 : Int32) (h : hp_H) (out : Int32 × hp_H), k22 t0 y1 y2 y3 y4 y5 h = some out → ∀ (H : Heap) (locs : List Loc), hp_I G vwCl B s.heap h H locs → ∀ ls : Array Slot, lv_has ls 9 [(0, va_rf (some t0)), (1, .int y1), (2, .int y2), (3, .int y3), (4, .int y4), (5, .int y5)] → W p l e ({ frames := 1, cells := 0, slots := 0, locals := 21 }) s m args below meth c H locs 0 0 (MQ below (hq_Q G vwCl B (some (.int out.1)) out.2) args s 0 0 (fun q => B ≤ q)) (F0 m 22 ls [])) : ∀ (n : Nat) (t0 : Nat) (y1 : Int32) (y2 : Int32) (y3 : Int32) (y4 : Int32) (y5 : Int32) (y6 : Int32) (y7 : Int32) (y8 : Int32) (h : hp_H) (out : Int32 × hp_H), f_MD_part_L78 k22 n t0 y1 y2 y3 y4 y5 y6 y7 y8 h = some out → ∀ (H : Heap) (locs : List Loc), hp_I G vwCl B s.heap h H locs → ∀ ls : Array Slot, lv_has ls 9 [(0, va_rf (some t0)), (1, .int y1), (2, .int y2), (3, .int y3), (4, .int y4), (5, .int y5), (6, .int y6), (7, .int y7), (8, .int y8)] → W p l e ({ frames := 1, cells := 0, slots := 0, locals := 21 }) s m args below meth c H locs 0 0 (MQ below (hq_Q G vwCl B (some (.int out.1)) out.2) args s 0 0 (fun q => B ≤ q)) (F0 m 78 ls []) := by
  intro n
  induction n with
  | zero => intro t0 y1 y2 y3 y4 y5 y6 y7 y8 h out hf; simp [f_MD_part_L78] at hf
  | succ n ih =>
    intro t0 y1 y2 y3 y4 y5 y6 y7 y8 h out hf H locs I ls hl
    simp only [f_MD_part_L78] at hf
    refine lv_iload C.1.1 C.1.2.1 d_MD_part_78 (lv_at hl 4 rfl) ?_
    refine lv_iload_n C.1.1 C.1.2.1 d_MD_part_80 rfl (lv_at hl 3 rfl) ?_
    refine lv_icmp_ge (tgt := 157) C.1.1 C.1.2.1 d_MD_part_81 (by decide) (fun c25 => ?_) (fun c25 => ?_)
    · rw [if_pos c25] at hf
      refine W.widen (k := 0) (n := 0) (by decide) (by decide) ?_
      exact k_MD_part_L157 C _ hk22 t0 y1 y2 y3 y4 y5 y6 y7 h _ hf _ _ I ls (lv_sub hl [0, 1, 2, 3, 4, 5, 6, 7] rfl)
    · rw [if_neg c25] at hf
      refine hq_aload_n C.1.1 C.1.2.1 d_MD_part_84 rfl (lv_at hl 0 rfl) ?_
      refine lv_iload C.1.1 C.1.2.1 d_MD_part_85 (lv_at hl 6 rfl) ?_
      replace hf := Option.bind_eq_some_iff.mp hf
      obtain ⟨b28, e29, hf⟩ := hf
      obtain ⟨e29r, _, e29c⟩ := hp_o_inv e29
      cases e29r
      replace hf := Option.bind_eq_some_iff.mp hf
      obtain ⟨q26, e27, hf⟩ := hf
      refine hq_callW gt_good C I hl.1 (k_MD_isMark l G B _ t0 y6 q26 e27) M_MD_103 e29c rfl ⟨rfl, rfl⟩ ⟨Nat.le_of_ble_eq_true rfl, Nat.le_of_ble_eq_true rfl⟩ rfl (Nat.le_of_ble_eq_true rfl) d_MD_part_87 ⟨Nat.le_of_ble_eq_true rfl, Nat.le_of_ble_eq_true rfl⟩ (fun H locs I => ?_)
      refine W.widen (k := 0) (n := 0) (by decide) (by decide) ?_
      refine lv_if_ne (tgt := 157) C.1.1 C.1.2.1 d_MD_part_90 (by decide) (fun c30 => ?_) (fun c30 => ?_)
      · rw [if_neg c30] at hf
        refine W.widen (k := 0) (n := 0) (by decide) (by decide) ?_
        exact k_MD_part_L157 C _ hk22 t0 y1 y2 y3 y4 y5 y6 y7 q26.2 _ hf _ _ I ls (lv_sub hl [0, 1, 2, 3, 4, 5, 6, 7] rfl)
      · rw [if_pos c30] at hf
        refine hq_aload_n C.1.1 C.1.2.1 d_MD_part_93 rfl (lv_at hl 0 rfl) ?_
        refine lv_iload_n C.1.1 C.1.2.1 d_MD_part_94 rfl (lv_at hl 1 rfl) ?_
        refine lv_if_eq (tgt := 108) C.1.1 C.1.2.1 d_MD_part_95 (by decide) (fun c31 => ?_) (fun c31 => ?_)
        · rw [if_pos c31] at hf
          refine hq_aload_n C.1.1 C.1.2.1 d_MD_part_108 rfl (lv_at hl 0 rfl) ?_
          replace hf := Option.bind_eq_some_iff.mp hf
          obtain ⟨x32, e33, hf⟩ := hf
          refine hq_getR C I F_MD_90 e33 d_MD_part_109 ?_
          refine lv_iload C.1.1 C.1.2.1 d_MD_part_112 (lv_at hl 4 rfl) ?_
          replace hf := Option.bind_eq_some_iff.mp hf
          obtain ⟨x34, e35, hf⟩ := hf
          refine hq_iald C I (t := 0) rfl e35 d_MD_part_114 ?_
          refine W.widen (k := 0) (n := 0) (by decide) (by decide) ?_
          exact k_MD_part_L115 C _ hk22 _ ih t0 y1 y2 y3 y4 y5 y6 y7 y8 x34 (some t0) q26.2 _ hf _ _ I ls (lv_sub hl [0, 1, 2, 3, 4, 5, 6, 7, 8] rfl)
        · rw [if_neg c31] at hf
          refine hq_aload_n C.1.1 C.1.2.1 d_MD_part_98 rfl (lv_at hl 0 rfl) ?_
          replace hf := Option.bind_eq_some_iff.mp hf
          obtain ⟨x36, e37, hf⟩ := hf
          refine hq_getR C I F_MD_84 e37 d_MD_part_99 ?_
          refine lv_iload C.1.1 C.1.2.1 d_MD_part_102 (lv_at hl 4 rfl) ?_
          replace hf := Option.bind_eq_some_iff.mp hf
          obtain ⟨x38, e39, hf⟩ := hf
          refine hq_iald C I (t := 0) rfl e39 d_MD_part_104 ?_
          refine lv_goto (tgt := 115) C.1.1 C.1.2.1 d_MD_part_105 (by decide) ?_
          refine W.widen (k := 0) (n := 0) (by decide) (by decide) ?_
          exact k_MD_part_L115 C _ hk22 _ ih t0 y1 y2 y3 y4 y5 y6 y7 y8 x38 (some t0) q26.2 _ hf _ _ I ls (lv_sub hl [0, 1, 2, 3, 4, 5, 6, 7, 8] rfl)
set_option maxRecDepth 100000 in
set_option maxHeartbeats 4000000 in
theorem k_MD_part_L49 {p : Program} {l : Launch} {e : Env} {s : State} {m : MethodId} {args : Array Value} {below : List Frame} {meth : Method} {c : Code} {G : hp_G} {B : Nat} (C : hq_C p s m args meth c b_MD_part 9 ((Option.some Jvm.ClassFile.FieldType.int)) "LayeredLauncherModel" "part" gt G vwCl aTs) (k22 : Nat → Int32 → Int32 → Int32 → Int32 → Int32 → hp_H → Option (Int32 × hp_H)) (hk22 : ∀ (t0 : Nat) (y1 : Int32) (y2 : Int32) (y3 : Int32) (y4 : Int32) (y5 : Int32) (h : hp_H) (out : Int32 × hp_H), k22 t0 y1 y2 y3 y4 y5 h = some out → ∀ (H : Heap) (locs : List Loc), hp_I G vwCl B s.heap h H locs → ∀ ls : Array Slot, lv_has ls 9 [(0, va_rf (some t0)), (1, .int y1), (2, .int y2), (3, .int y3), (4, .int y4), (5, .int y5)] → W p l e ({ frames := 1, cells := 0, slots := 0, locals := 21 }) s m args below meth c H locs 0 0 (MQ below (hq_Q G vwCl B (some (.int out.1)) out.2) args s 0 0 (fun q => B ≤ q)) (F0 m 22 ls [])) : ∀ (t0 : Nat) (y1 : Int32) (y2 : Int32) (y3 : Int32) (y4 : Int32) (y5 : Int32) (s0 : Int32) (h : hp_H) (out : Int32 × hp_H), f_MD_part_L49 k22 t0 y1 y2 y3 y4 y5 s0 h = some out → ∀ (H : Heap) (locs : List Loc), hp_I G vwCl B s.heap h H locs → ∀ ls : Array Slot, lv_has ls 9 [(0, va_rf (some t0)), (1, .int y1), (2, .int y2), (3, .int y3), (4, .int y4), (5, .int y5)] → W p l e ({ frames := 1, cells := 0, slots := 0, locals := 21 }) s m args below meth c H locs 0 0 (MQ below (hq_Q G vwCl B (some (.int out.1)) out.2) args s 0 0 (fun q => B ≤ q)) (F0 m 49 ls [.int s0]) := by
  intro t0 y1 y2 y3 y4 y5 s0 h out hf H locs I ls hl
  unfold f_MD_part_L49 at hf
  refine lv_istore (i := 6) (lv' := [(6, .int s0), (0, va_rf (some t0)), (1, .int y1), (2, .int y2), (3, .int y3), (4, .int y4), (5, .int y5)]) C.1.1 C.1.2.1 d_MD_part_49 hl (by decide) (by first | rfl | simp [hq_cat, hq_catI, hq_catL]) (fun ls hl => ?_)
  refine lv_iload C.1.1 C.1.2.1 d_MD_part_51 (lv_at hl 5 rfl) ?_
  refine lv_istore (i := 7) (lv' := [(7, .int y4), (6, .int s0), (0, va_rf (some t0)), (1, .int y1), (2, .int y2), (3, .int y3), (4, .int y4), (5, .int y5)]) C.1.1 C.1.2.1 d_MD_part_53 hl (by decide) (by first | rfl | simp [hq_cat, hq_catI, hq_catL]) (fun ls hl => ?_)
  refine hq_aload_n C.1.1 C.1.2.1 d_MD_part_55 rfl (lv_at hl 2 rfl) ?_
  refine lv_iload C.1.1 C.1.2.1 d_MD_part_56 (lv_at hl 1 rfl) ?_
  replace hf := Option.bind_eq_some_iff.mp hf
  obtain ⟨b18, e19, hf⟩ := hf
  obtain ⟨e19r, _, e19c⟩ := hp_o_inv e19
  cases e19r
  replace hf := Option.bind_eq_some_iff.mp hf
  obtain ⟨q16, e17, hf⟩ := hf
  refine hq_callW gt_good C I hl.1 (k_MD_isDigit l G B _ t0 s0 q16 e17) M_MD_99 e19c rfl ⟨rfl, rfl⟩ ⟨Nat.le_of_ble_eq_true rfl, Nat.le_of_ble_eq_true rfl⟩ rfl (Nat.le_of_ble_eq_true rfl) d_MD_part_58 ⟨Nat.le_of_ble_eq_true rfl, Nat.le_of_ble_eq_true rfl⟩ (fun H locs I => ?_)
  refine W.widen (k := 0) (n := 0) (by decide) (by decide) ?_
  refine lv_istore (i := 8) (lv' := [(8, .int q16.1), (7, .int y4), (6, .int s0), (0, va_rf (some t0)), (1, .int y1), (2, .int y2), (3, .int y3), (4, .int y4), (5, .int y5)]) C.1.1 C.1.2.1 d_MD_part_61 hl (by decide) (by first | rfl | simp [hq_cat, hq_catI, hq_catL]) (fun ls hl => ?_)
  refine hq_aload_n C.1.1 C.1.2.1 d_MD_part_63 rfl (lv_at hl 3 rfl) ?_
  refine lv_iload C.1.1 C.1.2.1 d_MD_part_64 (lv_at hl 2 rfl) ?_
  replace hf := Option.bind_eq_some_iff.mp hf
  obtain ⟨b22, e23, hf⟩ := hf
  obtain ⟨e23r, _, e23c⟩ := hp_o_inv e23
  cases e23r
  replace hf := Option.bind_eq_some_iff.mp hf
  obtain ⟨q20, e21, hf⟩ := hf
  refine hq_callW gt_good C I hl.1 (k_MD_isMark l G B _ t0 s0 q20 e21) M_MD_103 e23c rfl ⟨rfl, rfl⟩ ⟨Nat.le_of_ble_eq_true rfl, Nat.le_of_ble_eq_true rfl⟩ rfl (Nat.le_of_ble_eq_true rfl) d_MD_part_66 ⟨Nat.le_of_ble_eq_true rfl, Nat.le_of_ble_eq_true rfl⟩ (fun H locs I => ?_)
  refine W.widen (k := 0) (n := 0) (by decide) (by decide) ?_
  refine lv_if_ne (tgt := 75) C.1.1 C.1.2.1 d_MD_part_69 (by decide) (fun c24 => ?_) (fun c24 => ?_)
  · rw [if_neg c24] at hf
    refine lv_iinc (v := (y4 + 1)) (lv' := [(4, .int (y4 + 1)), (8, .int q16.1), (7, .int y4), (6, .int s0), (0, va_rf (some t0)), (1, .int y1), (2, .int y2), (3, .int y3), (5, .int y5)]) C.1.1 C.1.2.1 d_MD_part_75 hl (k := 7) rfl rfl (by decide) (by first | rfl | simp [hq_cat, hq_catI, hq_catL]) (fun ls hl => ?_)
    refine W.widen (k := 0) (n := 0) (by decide) (by decide) ?_
    exact k_MD_part_L78 C _ hk22 FU t0 y1 y2 y3 (y4 + 1) y5 s0 y4 q16.1 q20.2 _ hf _ _ I ls (lv_sub hl [4, 5, 6, 7, 0, 8, 3, 2, 1] rfl)
  · rw [if_pos c24] at hf
    refine lv_iinc (v := (y5 + 1)) (lv' := [(5, .int (y5 + 1)), (8, .int q16.1), (7, .int y4), (6, .int s0), (0, va_rf (some t0)), (1, .int y1), (2, .int y2), (3, .int y3), (4, .int y4)]) C.1.1 C.1.2.1 d_MD_part_72 hl (k := 8) rfl rfl (by decide) (by first | rfl | simp [hq_cat, hq_catI, hq_catL]) (fun ls hl => ?_)
    refine lv_iinc (v := (y4 + 1)) (lv' := [(4, .int (y4 + 1)), (5, .int (y5 + 1)), (8, .int q16.1), (7, .int y4), (6, .int s0), (0, va_rf (some t0)), (1, .int y1), (2, .int y2), (3, .int y3)]) C.1.1 C.1.2.1 d_MD_part_75 hl (k := 8) rfl rfl (by decide) (by first | rfl | simp [hq_cat, hq_catI, hq_catL]) (fun ls hl => ?_)
    refine W.widen (k := 0) (n := 0) (by decide) (by decide) ?_
    exact k_MD_part_L78 C _ hk22 FU t0 y1 y2 y3 (y4 + 1) (y5 + 1) s0 y4 q16.1 q20.2 _ hf _ _ I ls (lv_sub hl [5, 6, 7, 8, 0, 1, 4, 3, 2] rfl)
set_option maxRecDepth 100000 in
set_option maxHeartbeats 4000000 in
theorem k_MD_part_L22 {p : Program} {l : Launch} {e : Env} {s : State} {m : MethodId} {args : Array Value} {below : List Frame} {meth : Method} {c : Code} {G : hp_G} {B : Nat} (C : hq_C p s m args meth c b_MD_part 9 ((Option.some Jvm.ClassFile.FieldType.int)) "LayeredLauncherModel" "part" gt G vwCl aTs) : ∀ (n : Nat) (t0 : Nat) (y1 : Int32) (y2 : Int32) (y3 : Int32) (y4 : Int32) (y5 : Int32) (h : hp_H) (out : Int32 × hp_H), f_MD_part_L22 n t0 y1 y2 y3 y4 y5 h = some out → ∀ (H : Heap) (locs : List Loc), hp_I G vwCl B s.heap h H locs → ∀ ls : Array Slot, lv_has ls 9 [(0, va_rf (some t0)), (1, .int y1), (2, .int y2), (3, .int y3), (4, .int y4), (5, .int y5)] → W p l e ({ frames := 1, cells := 0, slots := 0, locals := 21 }) s m args below meth c H locs 0 0 (MQ below (hq_Q G vwCl B (some (.int out.1)) out.2) args s 0 0 (fun q => B ≤ q)) (F0 m 22 ls []) := by
  intro n
  induction n with
  | zero => intro t0 y1 y2 y3 y4 y5 h out hf; simp [f_MD_part_L22] at hf
  | succ n ih =>
    intro t0 y1 y2 y3 y4 y5 h out hf H locs I ls hl
    simp only [f_MD_part_L22] at hf
    refine lv_iload C.1.1 C.1.2.1 d_MD_part_22 (lv_at hl 4 rfl) ?_
    refine lv_iload_n C.1.1 C.1.2.1 d_MD_part_24 rfl (lv_at hl 3 rfl) ?_
    refine lv_icmp_ge (tgt := 184) C.1.1 C.1.2.1 d_MD_part_25 (by decide) (fun c6 => ?_) (fun c6 => ?_)
    · rw [if_pos c6] at hf
      refine lv_iconst (v := -1) C.1.1 C.1.2.1 d_MD_part_184 (by decide) ?_
      cases hf
      exact hq_iret C I (by decide) (by decide) d_MD_part_185
    · rw [if_neg c6] at hf
      refine lv_iload_n C.1.1 C.1.2.1 d_MD_part_28 rfl (lv_at hl 1 rfl) ?_
      refine lv_if_eq (tgt := 42) C.1.1 C.1.2.1 d_MD_part_29 (by decide) (fun c7 => ?_) (fun c7 => ?_)
      · rw [if_pos c7] at hf
        refine hq_aload_n C.1.1 C.1.2.1 d_MD_part_42 rfl (lv_at hl 0 rfl) ?_
        replace hf := Option.bind_eq_some_iff.mp hf
        obtain ⟨x8, e9, hf⟩ := hf
        refine hq_getR C I F_MD_90 e9 d_MD_part_43 ?_
        refine lv_iload C.1.1 C.1.2.1 d_MD_part_46 (lv_at hl 4 rfl) ?_
        replace hf := Option.bind_eq_some_iff.mp hf
        obtain ⟨x10, e11, hf⟩ := hf
        refine hq_iald C I (t := 0) rfl e11 d_MD_part_48 ?_
        refine W.widen (k := 0) (n := 0) (by decide) (by decide) ?_
        exact k_MD_part_L49 C _ ih t0 y1 y2 y3 y4 y5 x10 h _ hf _ _ I ls (lv_sub hl [0, 1, 2, 3, 4, 5] rfl)
      · rw [if_neg c7] at hf
        refine hq_aload_n C.1.1 C.1.2.1 d_MD_part_32 rfl (lv_at hl 0 rfl) ?_
        replace hf := Option.bind_eq_some_iff.mp hf
        obtain ⟨x12, e13, hf⟩ := hf
        refine hq_getR C I F_MD_84 e13 d_MD_part_33 ?_
        refine lv_iload C.1.1 C.1.2.1 d_MD_part_36 (lv_at hl 4 rfl) ?_
        replace hf := Option.bind_eq_some_iff.mp hf
        obtain ⟨x14, e15, hf⟩ := hf
        refine hq_iald C I (t := 0) rfl e15 d_MD_part_38 ?_
        refine lv_goto (tgt := 49) C.1.1 C.1.2.1 d_MD_part_39 (by decide) ?_
        refine W.widen (k := 0) (n := 0) (by decide) (by decide) ?_
        exact k_MD_part_L49 C _ ih t0 y1 y2 y3 y4 y5 x14 h _ hf _ _ I ls (lv_sub hl [0, 1, 2, 3, 4, 5] rfl)
set_option maxRecDepth 100000 in
set_option maxHeartbeats 4000000 in
theorem k_MD_part (l : Launch) (G : hp_G) (B : Nat) (h : hp_H) (t0 : Nat) (p1 : Int32) (p2 : Int32) (out : Int32 × hp_H) (hf : f_MD_part h t0 p1 p2 = some out) : Met l y_MD_part (.code y_MD_part b_MD_part 9 ((Option.some Jvm.ClassFile.FieldType.int)) :: gt) ({ frames := 1, cells := 0, slots := 0, locals := 21 }) (hq_Pc G vwCl aTs B h [.ref t0, .int p1, .int p2]) (hq_Q G vwCl B (some (.int out.1)) out.2) 0 0 (fun q => B ≤ q) := by
  refine hq_enter (nL := 9) (by decide +kernel) (Nat.le_of_ble_eq_true rfl) ?_
  intro p e s m args below meth c C I ls hl
  have hl : lv_has ls 9 [(0, va_rf (some t0)), (1, .int p1), (2, .int p2)] := hl
  unfold f_MD_part at hf
  refine lv_iload_n C.1.1 C.1.2.1 d_MD_part_0 rfl (lv_at hl 1 rfl) ?_
  refine lv_if_eq (tgt := 11) C.1.1 C.1.2.1 d_MD_part_1 (by decide) (fun c1 => ?_) (fun c1 => ?_)
  · rw [if_pos c1] at hf
    refine hq_aload_n C.1.1 C.1.2.1 d_MD_part_11 rfl (lv_at hl 0 rfl) ?_
    replace hf := Option.bind_eq_some_iff.mp hf
    obtain ⟨x2, e3, hf⟩ := hf
    refine hq_getI C I F_MD_93 e3 d_MD_part_12 ?_
    refine lv_istore_n (i := 3) (lv' := [(3, .int x2), (0, va_rf (some t0)), (1, .int p1), (2, .int p2)]) C.1.1 C.1.2.1 d_MD_part_15 rfl hl (by decide) (by first | rfl | simp [hq_cat, hq_catI, hq_catL]) (fun ls hl => ?_)
    refine lv_iconst (v := 0) C.1.1 C.1.2.1 d_MD_part_16 (by decide) ?_
    refine lv_istore (i := 4) (lv' := [(4, .int (0 : Int32)), (3, .int x2), (0, va_rf (some t0)), (1, .int p1), (2, .int p2)]) C.1.1 C.1.2.1 d_MD_part_17 hl (by decide) (by first | rfl | simp [hq_cat, hq_catI, hq_catL]) (fun ls hl => ?_)
    refine lv_iconst (v := -1) C.1.1 C.1.2.1 d_MD_part_19 (by decide) ?_
    refine lv_istore (i := 5) (lv' := [(5, .int (-1 : Int32)), (4, .int (0 : Int32)), (3, .int x2), (0, va_rf (some t0)), (1, .int p1), (2, .int p2)]) C.1.1 C.1.2.1 d_MD_part_20 hl (by decide) (by first | rfl | simp [hq_cat, hq_catI, hq_catL]) (fun ls hl => ?_)
    refine W.widen (k := 0) (n := 0) (by decide) (by decide) ?_
    exact k_MD_part_L22 C FU t0 p1 p2 x2 (0 : Int32) (-1 : Int32) h _ hf _ _ I ls (lv_sub hl [3, 4, 5, 2, 1, 0] rfl)
  · rw [if_neg c1] at hf
    refine hq_aload_n C.1.1 C.1.2.1 d_MD_part_4 rfl (lv_at hl 0 rfl) ?_
    replace hf := Option.bind_eq_some_iff.mp hf
    obtain ⟨x4, e5, hf⟩ := hf
    refine hq_getI C I F_MD_87 e5 d_MD_part_5 ?_
    refine lv_goto (tgt := 15) C.1.1 C.1.2.1 d_MD_part_8 (by decide) ?_
    refine lv_istore_n (i := 3) (lv' := [(3, .int x4), (0, va_rf (some t0)), (1, .int p1), (2, .int p2)]) C.1.1 C.1.2.1 d_MD_part_15 rfl hl (by decide) (by first | rfl | simp [hq_cat, hq_catI, hq_catL]) (fun ls hl => ?_)
    refine lv_iconst (v := 0) C.1.1 C.1.2.1 d_MD_part_16 (by decide) ?_
    refine lv_istore (i := 4) (lv' := [(4, .int (0 : Int32)), (3, .int x4), (0, va_rf (some t0)), (1, .int p1), (2, .int p2)]) C.1.1 C.1.2.1 d_MD_part_17 hl (by decide) (by first | rfl | simp [hq_cat, hq_catI, hq_catL]) (fun ls hl => ?_)
    refine lv_iconst (v := -1) C.1.1 C.1.2.1 d_MD_part_19 (by decide) ?_
    refine lv_istore (i := 5) (lv' := [(5, .int (-1 : Int32)), (4, .int (0 : Int32)), (3, .int x4), (0, va_rf (some t0)), (1, .int p1), (2, .int p2)]) C.1.1 C.1.2.1 d_MD_part_20 hl (by decide) (by first | rfl | simp [hq_cat, hq_catI, hq_catL]) (fun ls hl => ?_)
    refine W.widen (k := 0) (n := 0) (by decide) (by decide) ?_
    exact k_MD_part_L22 C FU t0 p1 p2 x4 (0 : Int32) (-1 : Int32) h _ hf _ _ I ls (lv_sub hl [3, 4, 5, 2, 1, 0] rfl)
set_option maxRecDepth 100000 in
set_option maxHeartbeats 4000000 in
theorem k_MD_number_L49 {p : Program} {l : Launch} {e : Env} {s : State} {m : MethodId} {args : Array Value} {below : List Frame} {meth : Method} {c : Code} {G : hp_G} {B : Nat} (C : hq_C p s m args meth c b_MD_number 8 ((Option.some Jvm.ClassFile.FieldType.long)) "LayeredLauncherModel" "number" gt G vwCl aTs) (k19 : Nat → Int32 → Int64 → Int32 → hp_H → Option (Int64 × hp_H)) (hk19 : ∀ (t0 : Nat) (y1 : Int32) (y4 : Int64) (y6 : Int32) (h : hp_H) (out : Int64 × hp_H), k19 t0 y1 y4 y6 h = some out → ∀ (H : Heap) (locs : List Loc), hp_I G vwCl B s.heap h H locs → ∀ ls : Array Slot, lv_has ls 8 [(0, va_rf (some t0)), (1, .int y1), (4, .long y4), (6, .int y6)] → W p l e ({ frames := 2, cells := 0, slots := 0, locals := 49 }) s m args below meth c H locs 0 0 (MQ below (hq_Q G vwCl B (some (.long out.1)) out.2) args s 0 0 (fun q => B ≤ q)) (F0 m 19 ls [])) : ∀ (t0 : Nat) (y1 : Int32) (y4 : Int64) (y6 : Int32) (s0 : Int32) (h : hp_H) (out : Int64 × hp_H), f_MD_number_L49 k19 t0 y1 y4 y6 s0 h = some out → ∀ (H : Heap) (locs : List Loc), hp_I G vwCl B s.heap h H locs → ∀ ls : Array Slot, lv_has ls 8 [(0, va_rf (some t0)), (1, .int y1), (4, .long y4), (6, .int y6)] → W p l e ({ frames := 2, cells := 0, slots := 0, locals := 49 }) s m args below meth c H locs 0 0 (MQ below (hq_Q G vwCl B (some (.long out.1)) out.2) args s 0 0 (fun q => B ≤ q)) (F0 m 49 ls [.int s0]) := by
  intro t0 y1 y4 y6 s0 h out hf H locs I ls hl
  unfold f_MD_number_L49 at hf
  refine lv_istore (i := 7) (lv' := [(7, .int s0), (0, va_rf (some t0)), (1, .int y1), (4, .long y4), (6, .int y6)]) C.1.1 C.1.2.1 d_MD_number_49 hl (by decide) (by first | rfl | simp [hq_cat, hq_catI, hq_catL]) (fun ls hl => ?_)
  refine hq_aload_n C.1.1 C.1.2.1 d_MD_number_51 rfl (lv_at hl 1 rfl) ?_
  refine lv_iload C.1.1 C.1.2.1 d_MD_number_52 (lv_at hl 0 rfl) ?_
  replace hf := Option.bind_eq_some_iff.mp hf
  obtain ⟨b20, e21, hf⟩ := hf
  obtain ⟨e21r, _, e21c⟩ := hp_o_inv e21
  cases e21r
  replace hf := Option.bind_eq_some_iff.mp hf
  obtain ⟨q18, e19, hf⟩ := hf
  refine hq_callW gt_good C I hl.1 (k_MD_isDigit l G B _ t0 s0 q18 e19) M_MD_99 e21c rfl ⟨rfl, rfl⟩ ⟨Nat.le_of_ble_eq_true rfl, Nat.le_of_ble_eq_true rfl⟩ rfl (Nat.le_of_ble_eq_true rfl) d_MD_number_54 ⟨Nat.le_of_ble_eq_true rfl, Nat.le_of_ble_eq_true rfl⟩ (fun H locs I => ?_)
  refine W.widen (k := 0) (n := 0) (by decide) (by decide) ?_
  refine lv_if_ne (tgt := 64) C.1.1 C.1.2.1 d_MD_number_57 (by decide) (fun c22 => ?_) (fun c22 => ?_)
  · rw [if_neg c22] at hf
    refine lv_ldc2 C.1.1 C.1.2.1 C.1.2.2.2.1 (C.1.2.2.2.2 (.constantLong "LayeredLauncherModel" 120 (10)) g640) d_MD_number_64 ?_
    refine lv_lload C.1.1 C.1.2.1 d_MD_number_67 (lv_at hl 3 rfl) ?_
    refine lv_lmul C.1.1 C.1.2.1 d_MD_number_69 ?_
    refine lv_iload C.1.1 C.1.2.1 d_MD_number_70 (lv_at hl 0 rfl) ?_
    refine lv_bipush (v := 48) C.1.1 C.1.2.1 d_MD_number_72 (by decide) ?_
    refine lv_isub C.1.1 C.1.2.1 d_MD_number_74 ?_
    refine lv_i2l (v := ((s0 - (48 : Int32)).toInt64)) C.1.1 C.1.2.1 d_MD_number_75 rfl ?_
    refine lv_ladd C.1.1 C.1.2.1 d_MD_number_76 ?_
    refine lv_lstore (i := 4) (lv' := [(4, .long (((10 : Int64) * y4) + ((s0 - (48 : Int32)).toInt64))), (7, .int s0), (0, va_rf (some t0)), (1, .int y1), (6, .int y6)]) C.1.1 C.1.2.1 d_MD_number_77 hl (by decide) (by first | rfl | simp [hq_cat, hq_catI, hq_catL]) (fun ls hl => ?_)
    refine lv_iinc (v := (y6 + 1)) (lv' := [(6, .int (y6 + 1)), (4, .long (((10 : Int64) * y4) + ((s0 - (48 : Int32)).toInt64))), (7, .int s0), (0, va_rf (some t0)), (1, .int y1)]) C.1.1 C.1.2.1 d_MD_number_79 hl (k := 4) rfl rfl (by decide) (by first | rfl | simp [hq_cat, hq_catI, hq_catL]) (fun ls hl => ?_)
    refine lv_goto (tgt := 19) C.1.1 C.1.2.1 d_MD_number_82 (by decide) ?_
    refine W.widen (k := 0) (n := 0) (by decide) (by decide) ?_
    exact hk19 t0 y1 (((10 : Int64) * y4) + ((s0 - (48 : Int32)).toInt64)) (y6 + 1) q18.2 _ hf _ _ I ls (lv_sub hl [3, 4, 1, 0] rfl)
  · rw [if_pos c22] at hf
    refine lv_ldc2 C.1.1 C.1.2.1 C.1.2.2.2.1 (C.1.2.2.2.2 (.constantLong "LayeredLauncherModel" 118 (-1)) g639) d_MD_number_60 ?_
    cases hf
    exact hq_lret C I (by decide) (by decide) d_MD_number_63
set_option maxRecDepth 100000 in
set_option maxHeartbeats 4000000 in
theorem k_MD_number_L19 {p : Program} {l : Launch} {e : Env} {s : State} {m : MethodId} {args : Array Value} {below : List Frame} {meth : Method} {c : Code} {G : hp_G} {B : Nat} (C : hq_C p s m args meth c b_MD_number 8 ((Option.some Jvm.ClassFile.FieldType.long)) "LayeredLauncherModel" "number" gt G vwCl aTs) : ∀ (n : Nat) (t0 : Nat) (y1 : Int32) (y4 : Int64) (y6 : Int32) (h : hp_H) (out : Int64 × hp_H), f_MD_number_L19 n t0 y1 y4 y6 h = some out → ∀ (H : Heap) (locs : List Loc), hp_I G vwCl B s.heap h H locs → ∀ ls : Array Slot, lv_has ls 8 [(0, va_rf (some t0)), (1, .int y1), (4, .long y4), (6, .int y6)] → W p l e ({ frames := 2, cells := 0, slots := 0, locals := 49 }) s m args below meth c H locs 0 0 (MQ below (hq_Q G vwCl B (some (.long out.1)) out.2) args s 0 0 (fun q => B ≤ q)) (F0 m 19 ls []) := by
  intro n
  induction n with
  | zero => intro t0 y1 y4 y6 h out hf; simp [f_MD_number_L19] at hf
  | succ n ih =>
    intro t0 y1 y4 y6 h out hf H locs I ls hl
    simp only [f_MD_number_L19] at hf
    refine lv_iload C.1.1 C.1.2.1 d_MD_number_19 (lv_at hl 3 rfl) ?_
    refine hq_aload_n C.1.1 C.1.2.1 d_MD_number_21 rfl (lv_at hl 0 rfl) ?_
    replace hf := Option.bind_eq_some_iff.mp hf
    obtain ⟨x6, e7, hf⟩ := hf
    refine hq_getI C I F_MD_96 e7 d_MD_number_22 ?_
    refine lv_icmp_ge (tgt := 85) C.1.1 C.1.2.1 d_MD_number_25 (by decide) (fun c8 => ?_) (fun c8 => ?_)
    · rw [if_pos c8] at hf
      refine lv_lload C.1.1 C.1.2.1 d_MD_number_85 (lv_at hl 2 rfl) ?_
      cases hf
      exact hq_lret C I (by decide) (by decide) d_MD_number_87
    · rw [if_neg c8] at hf
      refine lv_iload_n C.1.1 C.1.2.1 d_MD_number_28 rfl (lv_at hl 1 rfl) ?_
      refine lv_if_eq (tgt := 42) C.1.1 C.1.2.1 d_MD_number_29 (by decide) (fun c9 => ?_) (fun c9 => ?_)
      · rw [if_pos c9] at hf
        refine hq_aload_n C.1.1 C.1.2.1 d_MD_number_42 rfl (lv_at hl 0 rfl) ?_
        replace hf := Option.bind_eq_some_iff.mp hf
        obtain ⟨x10, e11, hf⟩ := hf
        refine hq_getR C I F_MD_90 e11 d_MD_number_43 ?_
        refine lv_iload C.1.1 C.1.2.1 d_MD_number_46 (lv_at hl 3 rfl) ?_
        replace hf := Option.bind_eq_some_iff.mp hf
        obtain ⟨x12, e13, hf⟩ := hf
        refine hq_iald C I (t := 0) rfl e13 d_MD_number_48 ?_
        refine W.widen (k := 0) (n := 0) (by decide) (by decide) ?_
        exact k_MD_number_L49 C _ ih t0 y1 y4 y6 x12 h _ hf _ _ I ls (lv_sub hl [0, 1, 2, 3] rfl)
      · rw [if_neg c9] at hf
        refine hq_aload_n C.1.1 C.1.2.1 d_MD_number_32 rfl (lv_at hl 0 rfl) ?_
        replace hf := Option.bind_eq_some_iff.mp hf
        obtain ⟨x14, e15, hf⟩ := hf
        refine hq_getR C I F_MD_84 e15 d_MD_number_33 ?_
        refine lv_iload C.1.1 C.1.2.1 d_MD_number_36 (lv_at hl 3 rfl) ?_
        replace hf := Option.bind_eq_some_iff.mp hf
        obtain ⟨x16, e17, hf⟩ := hf
        refine hq_iald C I (t := 0) rfl e17 d_MD_number_38 ?_
        refine lv_goto (tgt := 49) C.1.1 C.1.2.1 d_MD_number_39 (by decide) ?_
        refine W.widen (k := 0) (n := 0) (by decide) (by decide) ?_
        exact k_MD_number_L49 C _ ih t0 y1 y4 y6 x16 h _ hf _ _ I ls (lv_sub hl [0, 1, 2, 3] rfl)
set_option maxRecDepth 100000 in
set_option maxHeartbeats 4000000 in
theorem k_MD_number (l : Launch) (G : hp_G) (B : Nat) (h : hp_H) (t0 : Nat) (p1 : Int32) (p2 : Int32) (out : Int64 × hp_H) (hf : f_MD_number h t0 p1 p2 = some out) : Met l y_MD_number (.code y_MD_number b_MD_number 8 ((Option.some Jvm.ClassFile.FieldType.long)) :: gt) ({ frames := 2, cells := 0, slots := 0, locals := 49 }) (hq_Pc G vwCl aTs B h [.ref t0, .int p1, .int p2]) (hq_Q G vwCl B (some (.long out.1)) out.2) 0 0 (fun q => B ≤ q) := by
  refine hq_enter (nL := 8) (by decide +kernel) (Nat.le_of_ble_eq_true rfl) ?_
  intro p e s m args below meth c C I ls hl
  have hl : lv_has ls 8 [(0, va_rf (some t0)), (1, .int p1), (2, .int p2)] := hl
  unfold f_MD_number at hf
  refine hq_aload_n C.1.1 C.1.2.1 d_MD_number_0 rfl (lv_at hl 0 rfl) ?_
  refine lv_iload_n C.1.1 C.1.2.1 d_MD_number_1 rfl (lv_at hl 1 rfl) ?_
  refine lv_iload_n C.1.1 C.1.2.1 d_MD_number_2 rfl (lv_at hl 2 rfl) ?_
  replace hf := Option.bind_eq_some_iff.mp hf
  obtain ⟨b3, e4, hf⟩ := hf
  obtain ⟨e4r, _, e4c⟩ := hp_o_inv e4
  cases e4r
  replace hf := Option.bind_eq_some_iff.mp hf
  obtain ⟨q1, e2, hf⟩ := hf
  refine hq_callW gt_good C I hl.1 (k_MD_part l G B _ t0 p1 p2 q1 e2) M_MD_114 e4c rfl ⟨rfl, rfl⟩ ⟨Nat.le_of_ble_eq_true rfl, Nat.le_of_ble_eq_true rfl⟩ rfl (Nat.le_of_ble_eq_true rfl) d_MD_number_3 ⟨Nat.le_of_ble_eq_true rfl, Nat.le_of_ble_eq_true rfl⟩ (fun H locs I => ?_)
  refine W.widen (k := 0) (n := 0) (by decide) (by decide) ?_
  refine lv_istore_n (i := 3) (lv' := [(3, .int q1.1), (0, va_rf (some t0)), (1, .int p1), (2, .int p2)]) C.1.1 C.1.2.1 d_MD_number_6 rfl hl (by decide) (by first | rfl | simp [hq_cat, hq_catI, hq_catL]) (fun ls hl => ?_)
  refine lv_iload_n C.1.1 C.1.2.1 d_MD_number_7 rfl (lv_at hl 0 rfl) ?_
  refine lv_if_ge (tgt := 13) C.1.1 C.1.2.1 d_MD_number_8 (by decide) (fun c5 => ?_) (fun c5 => ?_)
  · rw [if_pos c5] at hf
    refine lv_lconst (v := 0) C.1.1 C.1.2.1 d_MD_number_13 (by decide) ?_
    refine lv_lstore (i := 4) (lv' := [(4, .long (0 : Int64)), (3, .int q1.1), (0, va_rf (some t0)), (1, .int p1), (2, .int p2)]) C.1.1 C.1.2.1 d_MD_number_14 hl (by decide) (by first | rfl | simp [hq_cat, hq_catI, hq_catL]) (fun ls hl => ?_)
    refine lv_iload_n C.1.1 C.1.2.1 d_MD_number_16 rfl (lv_at hl 1 rfl) ?_
    refine lv_istore (i := 6) (lv' := [(6, .int q1.1), (4, .long (0 : Int64)), (3, .int q1.1), (0, va_rf (some t0)), (1, .int p1), (2, .int p2)]) C.1.1 C.1.2.1 d_MD_number_17 hl (by decide) (by first | rfl | simp [hq_cat, hq_catI, hq_catL]) (fun ls hl => ?_)
    refine W.widen (k := 0) (n := 0) (by decide) (by decide) ?_
    exact k_MD_number_L19 C FU t0 p1 (0 : Int64) q1.1 q1.2 _ hf _ _ I ls (lv_sub hl [3, 4, 1, 0] rfl)
  · rw [if_neg c5] at hf
    refine lv_lconst (v := 0) C.1.1 C.1.2.1 d_MD_number_11 (by decide) ?_
    cases hf
    exact hq_lret C I (by decide) (by decide) d_MD_number_12
set_option maxRecDepth 100000 in
set_option maxHeartbeats 4000000 in
theorem k_MD_orderOfWords_L79 {p : Program} {l : Launch} {e : Env} {s : State} {m : MethodId} {args : Array Value} {below : List Frame} {meth : Method} {c : Code} {G : hp_G} {B : Nat} (C : hq_C p s m args meth c b_MD_orderOfWords 8 ((Option.some Jvm.ClassFile.FieldType.int)) "LayeredLauncherModel" "orderOfWords" gt G vwCl aTs) (k23 : Nat → Int32 → Int32 → Int32 → Int32 → hp_H → Option (Int32 × hp_H)) (hk23 : ∀ (t0 : Nat) (y2 : Int32) (y3 : Int32) (y4 : Int32) (y5 : Int32) (h : hp_H) (out : Int32 × hp_H), k23 t0 y2 y3 y4 y5 h = some out → ∀ (H : Heap) (locs : List Loc), hp_I G vwCl B s.heap h H locs → ∀ ls : Array Slot, lv_has ls 8 [(0, va_rf (some t0)), (2, .int y2), (3, .int y3), (4, .int y4), (5, .int y5)] → W p l e ({ frames := 2, cells := 0, slots := 0, locals := 49 }) s m args below meth c H locs 0 0 (MQ below (hq_Q G vwCl B (some (.int out.1)) out.2) args s 0 0 (fun q => B ≤ q)) (F0 m 23 ls [])) : ∀ (t0 : Nat) (y2 : Int32) (y3 : Int32) (y4 : Int32) (y5 : Int32) (y6 : Int32) (s0 : Int32) (h : hp_H) (out : Int32 × hp_H), f_MD_orderOfWords_L79 k23 t0 y2 y3 y4 y5 y6 s0 h = some out → ∀ (H : Heap) (locs : List Loc), hp_I G vwCl B s.heap h H locs → ∀ ls : Array Slot, lv_has ls 8 [(0, va_rf (some t0)), (2, .int y2), (3, .int y3), (4, .int y4), (5, .int y5), (6, .int y6)] → W p l e ({ frames := 2, cells := 0, slots := 0, locals := 49 }) s m args below meth c H locs 0 0 (MQ below (hq_Q G vwCl B (some (.int out.1)) out.2) args s 0 0 (fun q => B ≤ q)) (F0 m 79 ls [.int s0]) := by
  intro t0 y2 y3 y4 y5 y6 s0 h out hf H locs I ls hl
  unfold f_MD_orderOfWords_L79 at hf
  refine lv_istore (i := 7) (lv' := [(7, .int s0), (0, va_rf (some t0)), (2, .int y2), (3, .int y3), (4, .int y4), (5, .int y5), (6, .int y6)]) C.1.1 C.1.2.1 d_MD_orderOfWords_79 hl (by decide) (by first | rfl | simp [hq_cat, hq_catI, hq_catL]) (fun ls hl => ?_)
  refine lv_iload C.1.1 C.1.2.1 d_MD_orderOfWords_81 (lv_at hl 6 rfl) ?_
  refine lv_iload C.1.1 C.1.2.1 d_MD_orderOfWords_83 (lv_at hl 0 rfl) ?_
  refine lv_icmp_eq (tgt := 101) C.1.1 C.1.2.1 d_MD_orderOfWords_85 (by decide) (fun c24 => ?_) (fun c24 => ?_)
  · rw [if_pos c24] at hf
    refine lv_iinc (v := (y5 + 1)) (lv' := [(5, .int (y5 + 1)), (7, .int s0), (0, va_rf (some t0)), (2, .int y2), (3, .int y3), (4, .int y4), (6, .int y6)]) C.1.1 C.1.2.1 d_MD_orderOfWords_101 hl (k := 5) rfl rfl (by decide) (by first | rfl | simp [hq_cat, hq_catI, hq_catL]) (fun ls hl => ?_)
    refine lv_goto (tgt := 23) C.1.1 C.1.2.1 d_MD_orderOfWords_104 (by decide) ?_
    refine W.widen (k := 0) (n := 0) (by decide) (by decide) ?_
    exact hk23 t0 y2 y3 y4 (y5 + 1) h _ hf _ _ I ls (lv_sub hl [2, 3, 4, 5, 0] rfl)
  · rw [if_neg c24] at hf
    refine lv_iload C.1.1 C.1.2.1 d_MD_orderOfWords_88 (lv_at hl 6 rfl) ?_
    refine lv_iload C.1.1 C.1.2.1 d_MD_orderOfWords_90 (lv_at hl 0 rfl) ?_
    refine lv_icmp_ge (tgt := 99) C.1.1 C.1.2.1 d_MD_orderOfWords_92 (by decide) (fun c25 => ?_) (fun c25 => ?_)
    · rw [if_pos c25] at hf
      refine lv_iconst (v := 1) C.1.1 C.1.2.1 d_MD_orderOfWords_99 (by decide) ?_
      cases hf
      exact hq_iret C I (by decide) (by decide) d_MD_orderOfWords_100
    · rw [if_neg c25] at hf
      refine lv_iconst (v := -1) C.1.1 C.1.2.1 d_MD_orderOfWords_95 (by decide) ?_
      refine lv_goto (tgt := 100) C.1.1 C.1.2.1 d_MD_orderOfWords_96 (by decide) ?_
      cases hf
      exact hq_iret C I (by decide) (by decide) d_MD_orderOfWords_100
set_option maxRecDepth 100000 in
set_option maxHeartbeats 4000000 in
theorem k_MD_orderOfWords_L51 {p : Program} {l : Launch} {e : Env} {s : State} {m : MethodId} {args : Array Value} {below : List Frame} {meth : Method} {c : Code} {G : hp_G} {B : Nat} (C : hq_C p s m args meth c b_MD_orderOfWords 8 ((Option.some Jvm.ClassFile.FieldType.int)) "LayeredLauncherModel" "orderOfWords" gt G vwCl aTs) (k23 : Nat → Int32 → Int32 → Int32 → Int32 → hp_H → Option (Int32 × hp_H)) (hk23 : ∀ (t0 : Nat) (y2 : Int32) (y3 : Int32) (y4 : Int32) (y5 : Int32) (h : hp_H) (out : Int32 × hp_H), k23 t0 y2 y3 y4 y5 h = some out → ∀ (H : Heap) (locs : List Loc), hp_I G vwCl B s.heap h H locs → ∀ ls : Array Slot, lv_has ls 8 [(0, va_rf (some t0)), (2, .int y2), (3, .int y3), (4, .int y4), (5, .int y5)] → W p l e ({ frames := 2, cells := 0, slots := 0, locals := 49 }) s m args below meth c H locs 0 0 (MQ below (hq_Q G vwCl B (some (.int out.1)) out.2) args s 0 0 (fun q => B ≤ q)) (F0 m 23 ls [])) : ∀ (t0 : Nat) (y2 : Int32) (y3 : Int32) (y4 : Int32) (y5 : Int32) (s0 : Int32) (h : hp_H) (out : Int32 × hp_H), f_MD_orderOfWords_L51 k23 t0 y2 y3 y4 y5 s0 h = some out → ∀ (H : Heap) (locs : List Loc), hp_I G vwCl B s.heap h H locs → ∀ ls : Array Slot, lv_has ls 8 [(0, va_rf (some t0)), (2, .int y2), (3, .int y3), (4, .int y4), (5, .int y5)] → W p l e ({ frames := 2, cells := 0, slots := 0, locals := 49 }) s m args below meth c H locs 0 0 (MQ below (hq_Q G vwCl B (some (.int out.1)) out.2) args s 0 0 (fun q => B ≤ q)) (F0 m 51 ls [.int s0]) := by
  intro t0 y2 y3 y4 y5 s0 h out hf H locs I ls hl
  unfold f_MD_orderOfWords_L51 at hf
  refine lv_istore (i := 6) (lv' := [(6, .int s0), (0, va_rf (some t0)), (2, .int y2), (3, .int y3), (4, .int y4), (5, .int y5)]) C.1.1 C.1.2.1 d_MD_orderOfWords_51 hl (by decide) (by first | rfl | simp [hq_cat, hq_catI, hq_catL]) (fun ls hl => ?_)
  refine lv_iload C.1.1 C.1.2.1 d_MD_orderOfWords_53 (lv_at hl 4 rfl) ?_
  refine lv_iload C.1.1 C.1.2.1 d_MD_orderOfWords_55 (lv_at hl 5 rfl) ?_
  refine lv_iadd C.1.1 C.1.2.1 d_MD_orderOfWords_57 ?_
  refine hq_aload_n C.1.1 C.1.2.1 d_MD_orderOfWords_58 rfl (lv_at hl 1 rfl) ?_
  replace hf := Option.bind_eq_some_iff.mp hf
  obtain ⟨x17, e18, hf⟩ := hf
  refine hq_getI C I F_MD_96 e18 d_MD_orderOfWords_59 ?_
  refine lv_icmp_ge (tgt := 78) C.1.1 C.1.2.1 d_MD_orderOfWords_62 (by decide) (fun c19 => ?_) (fun c19 => ?_)
  · rw [if_pos c19] at hf
    refine lv_iconst (v := 0) C.1.1 C.1.2.1 d_MD_orderOfWords_78 (by decide) ?_
    refine W.widen (k := 0) (n := 0) (by decide) (by decide) ?_
    exact k_MD_orderOfWords_L79 C _ hk23 t0 y2 y3 y4 y5 s0 (0 : Int32) h _ hf _ _ I ls (lv_sub hl [1, 2, 3, 4, 5, 0] rfl)
  · rw [if_neg c19] at hf
    refine hq_aload_n C.1.1 C.1.2.1 d_MD_orderOfWords_65 rfl (lv_at hl 1 rfl) ?_
    replace hf := Option.bind_eq_some_iff.mp hf
    obtain ⟨x20, e21, hf⟩ := hf
    refine hq_getR C I F_MD_90 e21 d_MD_orderOfWords_66 ?_
    refine lv_iload C.1.1 C.1.2.1 d_MD_orderOfWords_69 (lv_at hl 4 rfl) ?_
    refine lv_iload C.1.1 C.1.2.1 d_MD_orderOfWords_71 (lv_at hl 5 rfl) ?_
    refine lv_iadd C.1.1 C.1.2.1 d_MD_orderOfWords_73 ?_
    replace hf := Option.bind_eq_some_iff.mp hf
    obtain ⟨x22, e23, hf⟩ := hf
    refine hq_iald C I (t := 0) rfl e23 d_MD_orderOfWords_74 ?_
    refine lv_goto (tgt := 79) C.1.1 C.1.2.1 d_MD_orderOfWords_75 (by decide) ?_
    refine W.widen (k := 0) (n := 0) (by decide) (by decide) ?_
    exact k_MD_orderOfWords_L79 C _ hk23 t0 y2 y3 y4 y5 s0 x22 h _ hf _ _ I ls (lv_sub hl [1, 2, 3, 4, 5, 0] rfl)
set_option maxRecDepth 100000 in
set_option maxHeartbeats 4000000 in
theorem k_MD_orderOfWords_L23 {p : Program} {l : Launch} {e : Env} {s : State} {m : MethodId} {args : Array Value} {below : List Frame} {meth : Method} {c : Code} {G : hp_G} {B : Nat} (C : hq_C p s m args meth c b_MD_orderOfWords 8 ((Option.some Jvm.ClassFile.FieldType.int)) "LayeredLauncherModel" "orderOfWords" gt G vwCl aTs) : ∀ (n : Nat) (t0 : Nat) (y2 : Int32) (y3 : Int32) (y4 : Int32) (y5 : Int32) (h : hp_H) (out : Int32 × hp_H), f_MD_orderOfWords_L23 n t0 y2 y3 y4 y5 h = some out → ∀ (H : Heap) (locs : List Loc), hp_I G vwCl B s.heap h H locs → ∀ ls : Array Slot, lv_has ls 8 [(0, va_rf (some t0)), (2, .int y2), (3, .int y3), (4, .int y4), (5, .int y5)] → W p l e ({ frames := 2, cells := 0, slots := 0, locals := 49 }) s m args below meth c H locs 0 0 (MQ below (hq_Q G vwCl B (some (.int out.1)) out.2) args s 0 0 (fun q => B ≤ q)) (F0 m 23 ls []) := by
  intro n
  induction n with
  | zero => intro t0 y2 y3 y4 y5 h out hf; simp [f_MD_orderOfWords_L23] at hf
  | succ n ih =>
    intro t0 y2 y3 y4 y5 h out hf H locs I ls hl
    simp only [f_MD_orderOfWords_L23] at hf
    refine lv_iload C.1.1 C.1.2.1 d_MD_orderOfWords_23 (lv_at hl 4 rfl) ?_
    refine lv_bipush (v := 12) C.1.1 C.1.2.1 d_MD_orderOfWords_25 (by decide) ?_
    refine lv_icmp_ge (tgt := 107) C.1.1 C.1.2.1 d_MD_orderOfWords_27 (by decide) (fun c11 => ?_) (fun c11 => ?_)
    · rw [if_pos c11] at hf
      refine lv_iconst (v := 0) C.1.1 C.1.2.1 d_MD_orderOfWords_107 (by decide) ?_
      cases hf
      exact hq_iret C I (by decide) (by decide) d_MD_orderOfWords_108
    · rw [if_neg c11] at hf
      refine lv_iload_n C.1.1 C.1.2.1 d_MD_orderOfWords_30 rfl (lv_at hl 1 rfl) ?_
      refine lv_iload C.1.1 C.1.2.1 d_MD_orderOfWords_31 (lv_at hl 4 rfl) ?_
      refine lv_iadd C.1.1 C.1.2.1 d_MD_orderOfWords_33 ?_
      refine lv_iload_n C.1.1 C.1.2.1 d_MD_orderOfWords_34 rfl (lv_at hl 2 rfl) ?_
      refine lv_icmp_ge (tgt := 50) C.1.1 C.1.2.1 d_MD_orderOfWords_35 (by decide) (fun c12 => ?_) (fun c12 => ?_)
      · rw [if_pos c12] at hf
        refine lv_iconst (v := 0) C.1.1 C.1.2.1 d_MD_orderOfWords_50 (by decide) ?_
        refine W.widen (k := 0) (n := 0) (by decide) (by decide) ?_
        exact k_MD_orderOfWords_L51 C _ ih t0 y2 y3 y4 y5 (0 : Int32) h _ hf _ _ I ls (lv_sub hl [0, 1, 2, 3, 4] rfl)
      · rw [if_neg c12] at hf
        refine hq_aload_n C.1.1 C.1.2.1 d_MD_orderOfWords_38 rfl (lv_at hl 0 rfl) ?_
        replace hf := Option.bind_eq_some_iff.mp hf
        obtain ⟨x13, e14, hf⟩ := hf
        refine hq_getR C I F_MD_84 e14 d_MD_orderOfWords_39 ?_
        refine lv_iload_n C.1.1 C.1.2.1 d_MD_orderOfWords_42 rfl (lv_at hl 1 rfl) ?_
        refine lv_iload C.1.1 C.1.2.1 d_MD_orderOfWords_43 (lv_at hl 4 rfl) ?_
        refine lv_iadd C.1.1 C.1.2.1 d_MD_orderOfWords_45 ?_
        replace hf := Option.bind_eq_some_iff.mp hf
        obtain ⟨x15, e16, hf⟩ := hf
        refine hq_iald C I (t := 0) rfl e16 d_MD_orderOfWords_46 ?_
        refine lv_goto (tgt := 51) C.1.1 C.1.2.1 d_MD_orderOfWords_47 (by decide) ?_
        refine W.widen (k := 0) (n := 0) (by decide) (by decide) ?_
        exact k_MD_orderOfWords_L51 C _ ih t0 y2 y3 y4 y5 x15 h _ hf _ _ I ls (lv_sub hl [0, 1, 2, 3, 4] rfl)
set_option maxRecDepth 100000 in
set_option maxHeartbeats 4000000 in
theorem k_MD_orderOfWords (l : Launch) (G : hp_G) (B : Nat) (h : hp_H) (t0 : Nat) (p1 : Int32) (out : Int32 × hp_H) (hf : f_MD_orderOfWords h t0 p1 = some out) : Met l y_MD_orderOfWords (.code y_MD_orderOfWords b_MD_orderOfWords 8 ((Option.some Jvm.ClassFile.FieldType.int)) :: gt) ({ frames := 2, cells := 0, slots := 0, locals := 49 }) (hq_Pc G vwCl aTs B h [.ref t0, .int p1]) (hq_Q G vwCl B (some (.int out.1)) out.2) 0 0 (fun q => B ≤ q) := by
  refine hq_enter (nL := 8) (by decide +kernel) (Nat.le_of_ble_eq_true rfl) ?_
  intro p e s m args below meth c C I ls hl
  have hl : lv_has ls 8 [(0, va_rf (some t0)), (1, .int p1)] := hl
  unfold f_MD_orderOfWords at hf
  refine hq_aload_n C.1.1 C.1.2.1 d_MD_orderOfWords_0 rfl (lv_at hl 0 rfl) ?_
  refine lv_iconst (v := 1) C.1.1 C.1.2.1 d_MD_orderOfWords_1 (by decide) ?_
  refine lv_iload_n C.1.1 C.1.2.1 d_MD_orderOfWords_2 rfl (lv_at hl 1 rfl) ?_
  replace hf := Option.bind_eq_some_iff.mp hf
  obtain ⟨b3, e4, hf⟩ := hf
  obtain ⟨e4r, _, e4c⟩ := hp_o_inv e4
  cases e4r
  replace hf := Option.bind_eq_some_iff.mp hf
  obtain ⟨q1, e2, hf⟩ := hf
  refine hq_callW gt_good C I hl.1 (k_MD_part l G B _ t0 (1 : Int32) p1 q1 e2) M_MD_114 e4c rfl ⟨rfl, rfl⟩ ⟨Nat.le_of_ble_eq_true rfl, Nat.le_of_ble_eq_true rfl⟩ rfl (Nat.le_of_ble_eq_true rfl) d_MD_orderOfWords_3 ⟨Nat.le_of_ble_eq_true rfl, Nat.le_of_ble_eq_true rfl⟩ (fun H locs I => ?_)
  refine W.widen (k := 0) (n := 0) (by decide) (by decide) ?_
  refine lv_istore_n (i := 2) (lv' := [(2, .int q1.1), (0, va_rf (some t0)), (1, .int p1)]) C.1.1 C.1.2.1 d_MD_orderOfWords_6 rfl hl (by decide) (by first | rfl | simp [hq_cat, hq_catI, hq_catL]) (fun ls hl => ?_)
  refine hq_aload_n C.1.1 C.1.2.1 d_MD_orderOfWords_7 rfl (lv_at hl 1 rfl) ?_
  replace hf := Option.bind_eq_some_iff.mp hf
  obtain ⟨x5, e6, hf⟩ := hf
  refine hq_getI C I F_MD_96 e6 d_MD_orderOfWords_8 ?_
  refine lv_istore_n (i := 3) (lv' := [(3, .int x5), (2, .int q1.1), (0, va_rf (some t0)), (1, .int p1)]) C.1.1 C.1.2.1 d_MD_orderOfWords_11 rfl hl (by decide) (by first | rfl | simp [hq_cat, hq_catI, hq_catL]) (fun ls hl => ?_)
  refine hq_aload_n C.1.1 C.1.2.1 d_MD_orderOfWords_12 rfl (lv_at hl 2 rfl) ?_
  refine lv_iconst (v := 0) C.1.1 C.1.2.1 d_MD_orderOfWords_13 (by decide) ?_
  refine lv_iload_n C.1.1 C.1.2.1 d_MD_orderOfWords_14 rfl (lv_at hl 3 rfl) ?_
  replace hf := Option.bind_eq_some_iff.mp hf
  obtain ⟨b9, e10, hf⟩ := hf
  obtain ⟨e10r, _, e10c⟩ := hp_o_inv e10
  cases e10r
  replace hf := Option.bind_eq_some_iff.mp hf
  obtain ⟨q7, e8, hf⟩ := hf
  refine hq_callW gt_good C I hl.1 (k_MD_part l G B _ t0 (0 : Int32) p1 q7 e8) M_MD_114 e10c rfl ⟨rfl, rfl⟩ ⟨Nat.le_of_ble_eq_true rfl, Nat.le_of_ble_eq_true rfl⟩ rfl (Nat.le_of_ble_eq_true rfl) d_MD_orderOfWords_15 ⟨Nat.le_of_ble_eq_true rfl, Nat.le_of_ble_eq_true rfl⟩ (fun H locs I => ?_)
  refine W.widen (k := 0) (n := 0) (by decide) (by decide) ?_
  refine lv_istore (i := 4) (lv' := [(4, .int q7.1), (3, .int x5), (2, .int q1.1), (0, va_rf (some t0)), (1, .int p1)]) C.1.1 C.1.2.1 d_MD_orderOfWords_18 hl (by decide) (by first | rfl | simp [hq_cat, hq_catI, hq_catL]) (fun ls hl => ?_)
  refine lv_iconst (v := 0) C.1.1 C.1.2.1 d_MD_orderOfWords_20 (by decide) ?_
  refine lv_istore (i := 5) (lv' := [(5, .int (0 : Int32)), (4, .int q7.1), (3, .int x5), (2, .int q1.1), (0, va_rf (some t0)), (1, .int p1)]) C.1.1 C.1.2.1 d_MD_orderOfWords_21 hl (by decide) (by first | rfl | simp [hq_cat, hq_catI, hq_catL]) (fun ls hl => ?_)
  refine W.widen (k := 0) (n := 0) (by decide) (by decide) ?_
  exact k_MD_orderOfWords_L23 C FU t0 q1.1 x5 q7.1 (0 : Int32) q7.2 _ hf _ _ I ls (lv_sub hl [4, 3, 2, 1, 0] rfl)
set_option maxRecDepth 100000 in
set_option maxHeartbeats 4000000 in
theorem k_MD_order_L2 {p : Program} {l : Launch} {e : Env} {s : State} {m : MethodId} {args : Array Value} {below : List Frame} {meth : Method} {c : Code} {G : hp_G} {B : Nat} (C : hq_C p s m args meth c b_MD_order 7 ((Option.some Jvm.ClassFile.FieldType.int)) "LayeredLauncherModel" "order" gt G vwCl aTs) : ∀ (n : Nat) (t0 : Nat) (y1 : Int32) (h : hp_H) (out : Int32 × hp_H), f_MD_order_L2 n t0 y1 h = some out → ∀ (H : Heap) (locs : List Loc), hp_I G vwCl B s.heap h H locs → ∀ ls : Array Slot, lv_has ls 7 [(0, va_rf (some t0)), (1, .int y1)] → W p l e ({ frames := 3, cells := 0, slots := 0, locals := 76 }) s m args below meth c H locs 0 0 (MQ below (hq_Q G vwCl B (some (.int out.1)) out.2) args s 0 0 (fun q => B ≤ q)) (F0 m 2 ls []) := by
  intro n
  induction n with
  | zero => intro t0 y1 h out hf; simp [f_MD_order_L2] at hf
  | succ n ih =>
    intro t0 y1 h out hf H locs I ls hl
    simp only [f_MD_order_L2] at hf
    refine lv_iload_n C.1.1 C.1.2.1 d_MD_order_2 rfl (lv_at hl 1 rfl) ?_
    refine lv_bipush (v := 12) C.1.1 C.1.2.1 d_MD_order_3 (by decide) ?_
    refine lv_icmp_ge (tgt := 70) C.1.1 C.1.2.1 d_MD_order_5 (by decide) (fun c1 => ?_) (fun c1 => ?_)
    · rw [if_pos c1] at hf
      refine lv_iconst (v := 0) C.1.1 C.1.2.1 d_MD_order_70 (by decide) ?_
      cases hf
      exact hq_iret C I (by decide) (by decide) d_MD_order_71
    · rw [if_neg c1] at hf
      refine hq_aload_n C.1.1 C.1.2.1 d_MD_order_8 rfl (lv_at hl 0 rfl) ?_
      refine lv_iconst (v := 1) C.1.1 C.1.2.1 d_MD_order_9 (by decide) ?_
      refine lv_iload_n C.1.1 C.1.2.1 d_MD_order_10 rfl (lv_at hl 1 rfl) ?_
      replace hf := Option.bind_eq_some_iff.mp hf
      obtain ⟨b4, e5, hf⟩ := hf
      obtain ⟨e5r, _, e5c⟩ := hp_o_inv e5
      cases e5r
      replace hf := Option.bind_eq_some_iff.mp hf
      obtain ⟨q2, e3, hf⟩ := hf
      refine hq_callW gt_good C I hl.1 (k_MD_number l G B _ t0 (1 : Int32) y1 q2 e3) M_MD_122 e5c rfl ⟨rfl, rfl⟩ ⟨Nat.le_of_ble_eq_true rfl, Nat.le_of_ble_eq_true rfl⟩ rfl (Nat.le_of_ble_eq_true rfl) d_MD_order_11 ⟨Nat.le_of_ble_eq_true rfl, Nat.le_of_ble_eq_true rfl⟩ (fun H locs I => ?_)
      refine W.widen (k := 0) (n := 0) (by decide) (by decide) ?_
      refine lv_lstore_n (i := 2) (lv' := [(2, .long q2.1), (0, va_rf (some t0)), (1, .int y1)]) C.1.1 C.1.2.1 d_MD_order_14 rfl hl (by decide) (by first | rfl | simp [hq_cat, hq_catI, hq_catL]) (fun ls hl => ?_)
      refine hq_aload_n C.1.1 C.1.2.1 d_MD_order_15 rfl (lv_at hl 1 rfl) ?_
      refine lv_iconst (v := 0) C.1.1 C.1.2.1 d_MD_order_16 (by decide) ?_
      refine lv_iload_n C.1.1 C.1.2.1 d_MD_order_17 rfl (lv_at hl 2 rfl) ?_
      replace hf := Option.bind_eq_some_iff.mp hf
      obtain ⟨b8, e9, hf⟩ := hf
      obtain ⟨e9r, _, e9c⟩ := hp_o_inv e9
      cases e9r
      replace hf := Option.bind_eq_some_iff.mp hf
      obtain ⟨q6, e7, hf⟩ := hf
      refine hq_callW gt_good C I hl.1 (k_MD_number l G B _ t0 (0 : Int32) y1 q6 e7) M_MD_122 e9c rfl ⟨rfl, rfl⟩ ⟨Nat.le_of_ble_eq_true rfl, Nat.le_of_ble_eq_true rfl⟩ rfl (Nat.le_of_ble_eq_true rfl) d_MD_order_18 ⟨Nat.le_of_ble_eq_true rfl, Nat.le_of_ble_eq_true rfl⟩ (fun H locs I => ?_)
      refine W.widen (k := 0) (n := 0) (by decide) (by decide) ?_
      refine lv_lstore (i := 4) (lv' := [(4, .long q6.1), (2, .long q2.1), (0, va_rf (some t0)), (1, .int y1)]) C.1.1 C.1.2.1 d_MD_order_21 hl (by decide) (by first | rfl | simp [hq_cat, hq_catI, hq_catL]) (fun ls hl => ?_)
      refine lv_lload_n C.1.1 C.1.2.1 d_MD_order_23 rfl (lv_at hl 1 rfl) ?_
      refine lv_lload C.1.1 C.1.2.1 d_MD_order_24 (lv_at hl 0 rfl) ?_
      refine W.lcmp C.1.1 C.1.2.1 d_MD_order_26 ?_
      refine lv_if_eq (tgt := 43) C.1.1 C.1.2.1 d_MD_order_27 (by decide) (fun c10 => ?_) (fun c10 => ?_)
      · rw [if_pos c10] at hf
        refine lv_lload_n C.1.1 C.1.2.1 d_MD_order_43 rfl (lv_at hl 1 rfl) ?_
        refine lv_lconst (v := 0) C.1.1 C.1.2.1 d_MD_order_44 (by decide) ?_
        refine W.lcmp C.1.1 C.1.2.1 d_MD_order_45 ?_
        refine lv_if_ge (tgt := 64) C.1.1 C.1.2.1 d_MD_order_46 (by decide) (fun c11 => ?_) (fun c11 => ?_)
        · rw [if_pos c11] at hf
          refine lv_iinc (v := (y1 + 1)) (lv' := [(1, .int (y1 + 1)), (4, .long q6.1), (2, .long q2.1), (0, va_rf (some t0))]) C.1.1 C.1.2.1 d_MD_order_64 hl (k := 3) rfl rfl (by decide) (by first | rfl | simp [hq_cat, hq_catI, hq_catL]) (fun ls hl => ?_)
          refine lv_goto (tgt := 2) C.1.1 C.1.2.1 d_MD_order_67 (by decide) ?_
          refine W.widen (k := 0) (n := 0) (by decide) (by decide) ?_
          exact ih t0 (y1 + 1) q6.2 _ hf _ _ I ls (lv_sub hl [3, 0] rfl)
        · rw [if_neg c11] at hf
          refine hq_aload_n C.1.1 C.1.2.1 d_MD_order_49 rfl (lv_at hl 2 rfl) ?_
          refine lv_iload_n C.1.1 C.1.2.1 d_MD_order_50 rfl (lv_at hl 3 rfl) ?_
          replace hf := Option.bind_eq_some_iff.mp hf
          obtain ⟨b14, e15, hf⟩ := hf
          obtain ⟨e15r, _, e15c⟩ := hp_o_inv e15
          cases e15r
          replace hf := Option.bind_eq_some_iff.mp hf
          obtain ⟨q12, e13, hf⟩ := hf
          refine hq_callW gt_good C I hl.1 (k_MD_orderOfWords l G B _ t0 y1 q12 e13) M_MD_126 e15c rfl ⟨rfl, rfl⟩ ⟨Nat.le_of_ble_eq_true rfl, Nat.le_of_ble_eq_true rfl⟩ rfl (Nat.le_of_ble_eq_true rfl) d_MD_order_51 ⟨Nat.le_of_ble_eq_true rfl, Nat.le_of_ble_eq_true rfl⟩ (fun H locs I => ?_)
          refine W.widen (k := 0) (n := 0) (by decide) (by decide) ?_
          refine lv_istore (i := 6) (lv' := [(6, .int q12.1), (4, .long q6.1), (2, .long q2.1), (0, va_rf (some t0)), (1, .int y1)]) C.1.1 C.1.2.1 d_MD_order_54 hl (by decide) (by first | rfl | simp [hq_cat, hq_catI, hq_catL]) (fun ls hl => ?_)
          refine lv_iload C.1.1 C.1.2.1 d_MD_order_56 (lv_at hl 0 rfl) ?_
          refine lv_if_eq (tgt := 64) C.1.1 C.1.2.1 d_MD_order_58 (by decide) (fun c16 => ?_) (fun c16 => ?_)
          · rw [if_pos c16] at hf
            refine lv_iinc (v := (y1 + 1)) (lv' := [(1, .int (y1 + 1)), (6, .int q12.1), (4, .long q6.1), (2, .long q2.1), (0, va_rf (some t0))]) C.1.1 C.1.2.1 d_MD_order_64 hl (k := 4) rfl rfl (by decide) (by first | rfl | simp [hq_cat, hq_catI, hq_catL]) (fun ls hl => ?_)
            refine lv_goto (tgt := 2) C.1.1 C.1.2.1 d_MD_order_67 (by decide) ?_
            refine W.widen (k := 0) (n := 0) (by decide) (by decide) ?_
            exact ih t0 (y1 + 1) q12.2 _ hf _ _ I ls (lv_sub hl [4, 0] rfl)
          · rw [if_neg c16] at hf
            refine lv_iload C.1.1 C.1.2.1 d_MD_order_61 (lv_at hl 0 rfl) ?_
            cases hf
            exact hq_iret C I (by decide) (by decide) d_MD_order_63
      · rw [if_neg c10] at hf
        refine lv_lload_n C.1.1 C.1.2.1 d_MD_order_30 rfl (lv_at hl 1 rfl) ?_
        refine lv_lload C.1.1 C.1.2.1 d_MD_order_31 (lv_at hl 0 rfl) ?_
        refine W.lcmp C.1.1 C.1.2.1 d_MD_order_33 ?_
        refine lv_if_ge (tgt := 41) C.1.1 C.1.2.1 d_MD_order_34 (by decide) (fun c17 => ?_) (fun c17 => ?_)
        · rw [if_pos c17] at hf
          refine lv_iconst (v := 1) C.1.1 C.1.2.1 d_MD_order_41 (by decide) ?_
          cases hf
          exact hq_iret C I (by decide) (by decide) d_MD_order_42
        · rw [if_neg c17] at hf
          refine lv_iconst (v := -1) C.1.1 C.1.2.1 d_MD_order_37 (by decide) ?_
          refine lv_goto (tgt := 42) C.1.1 C.1.2.1 d_MD_order_38 (by decide) ?_
          cases hf
          exact hq_iret C I (by decide) (by decide) d_MD_order_42
set_option maxRecDepth 100000 in
set_option maxHeartbeats 4000000 in
theorem k_MD_order (l : Launch) (G : hp_G) (B : Nat) (h : hp_H) (t0 : Nat) (out : Int32 × hp_H) (hf : f_MD_order h t0 = some out) : Met l y_MD_order (.code y_MD_order b_MD_order 7 ((Option.some Jvm.ClassFile.FieldType.int)) :: gt) ({ frames := 3, cells := 0, slots := 0, locals := 76 }) (hq_Pc G vwCl aTs B h [.ref t0]) (hq_Q G vwCl B (some (.int out.1)) out.2) 0 0 (fun q => B ≤ q) := by
  refine hq_enter (nL := 7) (by decide +kernel) (Nat.le_of_ble_eq_true rfl) ?_
  intro p e s m args below meth c C I ls hl
  have hl : lv_has ls 7 [(0, va_rf (some t0))] := hl
  unfold f_MD_order at hf
  refine lv_iconst (v := 0) C.1.1 C.1.2.1 d_MD_order_0 (by decide) ?_
  refine lv_istore_n (i := 1) (lv' := [(1, .int (0 : Int32)), (0, va_rf (some t0))]) C.1.1 C.1.2.1 d_MD_order_1 rfl hl (by decide) (by first | rfl | simp [hq_cat, hq_catI, hq_catL]) (fun ls hl => ?_)
  refine W.widen (k := 0) (n := 0) (by decide) (by decide) ?_
  exact k_MD_order_L2 C FU t0 (0 : Int32) h _ hf _ _ I ls (lv_sub hl [1, 0] rfl)
set_option maxRecDepth 100000 in
set_option maxHeartbeats 4000000 in
theorem k_MD_firstIs_L14 {p : Program} {l : Launch} {e : Env} {s : State} {m : MethodId} {args : Array Value} {below : List Frame} {meth : Method} {c : Code} {G : hp_G} {B : Nat} (C : hq_C p s m args meth c b_MD_firstIs 3 ((Option.none : Option Jvm.ClassFile.FieldType)) "LayeredLauncherModel" "firstIs" gt G vwCl aTs) : ∀ (n : Nat) (t0 : Nat) (y1 : Int32) (y2 : Int32) (h : hp_H) (out : hp_H), f_MD_firstIs_L14 n t0 y1 y2 h = some out → ∀ (H : Heap) (locs : List Loc), hp_I G vwCl B s.heap h H locs → ∀ ls : Array Slot, lv_has ls 3 [(0, va_rf (some t0)), (1, .int y1), (2, .int y2)] → W p l e ({ frames := 0, cells := 0, slots := 0, locals := 0 }) s m args below meth c H locs 0 0 (MQ below (hq_Q G vwCl B none out) args s 0 0 (fun q => B ≤ q)) (F0 m 14 ls []) := by
  intro n
  induction n with
  | zero => intro t0 y1 y2 h out hf; simp [f_MD_firstIs_L14] at hf
  | succ n ih =>
    intro t0 y1 y2 h out hf H locs I ls hl
    simp only [f_MD_firstIs_L14] at hf
    refine lv_iload_n C.1.1 C.1.2.1 d_MD_firstIs_14 rfl (lv_at hl 2 rfl) ?_
    refine hq_aload_n C.1.1 C.1.2.1 d_MD_firstIs_15 rfl (lv_at hl 0 rfl) ?_
    replace hf := Option.bind_eq_some_iff.mp hf
    obtain ⟨x7, e8, hf⟩ := hf
    refine hq_getR C I F_MD_26 e8 d_MD_firstIs_16 ?_
    refine lv_iload_n C.1.1 C.1.2.1 d_MD_firstIs_19 rfl (lv_at hl 1 rfl) ?_
    replace hf := Option.bind_eq_some_iff.mp hf
    obtain ⟨x9, e10, hf⟩ := hf
    refine hq_iald C I (t := 0) rfl e10 d_MD_firstIs_20 ?_
    refine lv_icmp_ge (tgt := 60) C.1.1 C.1.2.1 d_MD_firstIs_21 (by decide) (fun c11 => ?_) (fun c11 => ?_)
    · rw [if_pos c11] at hf
      cases hf
      exact hq_vret C I (by decide) (by decide) d_MD_firstIs_60
    · rw [if_neg c11] at hf
      refine hq_aload_n C.1.1 C.1.2.1 d_MD_firstIs_24 rfl (lv_at hl 0 rfl) ?_
      replace hf := Option.bind_eq_some_iff.mp hf
      obtain ⟨x12, e13, hf⟩ := hf
      refine hq_getR C I F_MD_84 e13 d_MD_firstIs_25 ?_
      refine hq_aload_n C.1.1 C.1.2.1 d_MD_firstIs_28 rfl (lv_at hl 0 rfl) ?_
      replace hf := Option.bind_eq_some_iff.mp hf
      obtain ⟨x14, e15, hf⟩ := hf
      refine hq_getI C I F_MD_87 e15 d_MD_firstIs_29 ?_
      refine hq_aload_n C.1.1 C.1.2.1 d_MD_firstIs_32 rfl (lv_at hl 0 rfl) ?_
      replace hf := Option.bind_eq_some_iff.mp hf
      obtain ⟨x16, e17, hf⟩ := hf
      refine hq_getR C I F_MD_29 e17 d_MD_firstIs_33 ?_
      refine lv_iload_n C.1.1 C.1.2.1 d_MD_firstIs_36 rfl (lv_at hl 1 rfl) ?_
      refine lv_bipush (v := 21) C.1.1 C.1.2.1 d_MD_firstIs_37 (by decide) ?_
      refine lv_imul C.1.1 C.1.2.1 d_MD_firstIs_39 ?_
      refine lv_iload_n C.1.1 C.1.2.1 d_MD_firstIs_40 rfl (lv_at hl 2 rfl) ?_
      refine lv_iadd C.1.1 C.1.2.1 d_MD_firstIs_41 ?_
      replace hf := Option.bind_eq_some_iff.mp hf
      obtain ⟨x18, e19, hf⟩ := hf
      refine hq_iald C I (t := 0) rfl e19 d_MD_firstIs_42 ?_
      replace hf := Option.bind_eq_some_iff.mp hf
      obtain ⟨h20, e21, hf⟩ := hf
      refine hq_iast C I (t := 0) rfl e21 d_MD_firstIs_43 (fun H locs I => ?_)
      refine hq_aload_n C.1.1 C.1.2.1 d_MD_firstIs_44 rfl (lv_at hl 0 rfl) ?_
      refine lv_dup C.1.1 C.1.2.1 d_MD_firstIs_45 (hq_cat _) ?_
      replace hf := Option.bind_eq_some_iff.mp hf
      obtain ⟨x22, e23, hf⟩ := hf
      refine hq_getI C I F_MD_87 e23 d_MD_firstIs_46 ?_
      refine lv_iconst (v := 1) C.1.1 C.1.2.1 d_MD_firstIs_49 (by decide) ?_
      refine lv_iadd C.1.1 C.1.2.1 d_MD_firstIs_50 ?_
      replace hf := Option.bind_eq_some_iff.mp hf
      obtain ⟨h24, e25, hf⟩ := hf
      refine hq_put C I F_MD_87 e25 rfl rfl d_MD_firstIs_51 (fun H locs I => ?_)
      refine lv_iinc (v := (y2 + 1)) (lv' := [(2, .int (y2 + 1)), (0, va_rf (some t0)), (1, .int y1)]) C.1.1 C.1.2.1 d_MD_firstIs_54 hl (k := 2) rfl rfl (by decide) (by first | rfl | simp [hq_cat, hq_catI, hq_catL]) (fun ls hl => ?_)
      refine lv_goto (tgt := 14) C.1.1 C.1.2.1 d_MD_firstIs_57 (by decide) ?_
      refine W.widen (k := 0) (n := 0) (by decide) (by decide) ?_
      exact ih t0 y1 (y2 + 1) h24 _ hf _ _ I ls (lv_sub hl [1, 2, 0] rfl)
set_option maxRecDepth 100000 in
set_option maxHeartbeats 4000000 in
theorem k_MD_firstIs (l : Launch) (G : hp_G) (B : Nat) (h : hp_H) (t0 : Nat) (p1 : Int32) (out : hp_H) (hf : f_MD_firstIs h t0 p1 = some out) : Met l y_MD_firstIs (.code y_MD_firstIs b_MD_firstIs 3 ((Option.none : Option Jvm.ClassFile.FieldType)) :: gt) ({ frames := 0, cells := 0, slots := 0, locals := 0 }) (hq_Pc G vwCl aTs B h [.ref t0, .int p1]) (hq_Q G vwCl B none out) 0 0 (fun q => B ≤ q) := by
  refine hq_enter (nL := 3) (by decide +kernel) (Nat.le_of_ble_eq_true rfl) ?_
  intro p e s m args below meth c C I ls hl
  have hl : lv_has ls 3 [(0, va_rf (some t0)), (1, .int p1)] := hl
  unfold f_MD_firstIs at hf
  refine hq_aload_n C.1.1 C.1.2.1 d_MD_firstIs_0 rfl (lv_at hl 0 rfl) ?_
  refine lv_iconst (v := 0) C.1.1 C.1.2.1 d_MD_firstIs_1 (by decide) ?_
  replace hf := Option.bind_eq_some_iff.mp hf
  obtain ⟨h1, e2, hf⟩ := hf
  refine hq_put C I F_MD_87 e2 rfl rfl d_MD_firstIs_2 (fun H locs I => ?_)
  refine hq_aload_n C.1.1 C.1.2.1 d_MD_firstIs_5 rfl (lv_at hl 0 rfl) ?_
  replace hf := Option.bind_eq_some_iff.mp hf
  obtain ⟨x3, e4, hf⟩ := hf
  refine hq_getR C I F_MD_32 e4 d_MD_firstIs_6 ?_
  refine lv_iload_n C.1.1 C.1.2.1 d_MD_firstIs_9 rfl (lv_at hl 1 rfl) ?_
  replace hf := Option.bind_eq_some_iff.mp hf
  obtain ⟨x5, e6, hf⟩ := hf
  refine hq_iald C I (t := 0) rfl e6 d_MD_firstIs_10 ?_
  refine lv_iconst (v := 1) C.1.1 C.1.2.1 d_MD_firstIs_11 (by decide) ?_
  refine lv_iadd C.1.1 C.1.2.1 d_MD_firstIs_12 ?_
  refine lv_istore_n (i := 2) (lv' := [(2, .int (x5 + (1 : Int32))), (0, va_rf (some t0)), (1, .int p1)]) C.1.1 C.1.2.1 d_MD_firstIs_13 rfl hl (by decide) (by first | rfl | simp [hq_cat, hq_catI, hq_catL]) (fun ls hl => ?_)
  refine W.widen (k := 0) (n := 0) (by decide) (by decide) ?_
  exact k_MD_firstIs_L14 C FU t0 p1 (x5 + (1 : Int32)) h1 _ hf _ _ I ls (lv_sub hl [1, 2, 0] rfl)
