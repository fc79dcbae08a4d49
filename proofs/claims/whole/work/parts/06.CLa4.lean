set_option maxRecDepth 100000 in
set_option maxHeartbeats 4000000 in
theorem k_AR_hasClass (l : Launch) (G : hp_G) (B : Nat) (h : hp_H) (t0 : Nat) (p1 : Int32) (out : Int32 × hp_H) (hf : f_AR_hasClass h t0 p1 = some out) : Met l y_AR_hasClass (.code y_AR_hasClass b_AR_hasClass 2 ((Option.some Jvm.ClassFile.FieldType.boolean)) :: gt) ({ frames := 0, cells := 0, slots := 0, locals := 0 }) (hq_Pc G vwCl aTs B h [.ref t0, .int p1]) (hq_Q G vwCl B (some (.int out.1)) out.2) 0 0 (fun q => B ≤ q) := by
  refine hq_enter (nL := 2) (by decide +kernel) (Nat.le_of_ble_eq_true rfl) ?_
  intro p e s m args below meth c C I ls hl
  have hl : lv_has ls 2 [(0, va_rf (some t0)), (1, .int p1)] := hl
  unfold f_AR_hasClass at hf
  refine hq_aload_n C.1.1 C.1.2.1 d_AR_hasClass_0 rfl (lv_at hl 0 rfl) ?_
  replace hf := Option.bind_eq_some_iff.mp hf
  obtain ⟨x1, e2, hf⟩ := hf
  refine hq_getI C I F_AR_21 e2 d_AR_hasClass_1 ?_
  refine lv_iconst (v := 1) C.1.1 C.1.2.1 d_AR_hasClass_4 (by decide) ?_
  refine lv_iload_n C.1.1 C.1.2.1 d_AR_hasClass_5 rfl (lv_at hl 1 rfl) ?_
  refine lv_ishl C.1.1 C.1.2.1 d_AR_hasClass_6 ?_
  refine lv_iand C.1.1 C.1.2.1 d_AR_hasClass_7 ?_
  refine lv_if_eq (tgt := 15) C.1.1 C.1.2.1 d_AR_hasClass_8 (by decide) (fun c3 => ?_) (fun c3 => ?_)
  · rw [if_pos c3] at hf
    refine lv_iconst (v := 0) C.1.1 C.1.2.1 d_AR_hasClass_15 (by decide) ?_
    cases hf
    exact hq_zret C I (hp_z_nar (x := 0) (Or.inl rfl)).1 (by decide) (by decide) d_AR_hasClass_16
  · rw [if_neg c3] at hf
    refine lv_iconst (v := 1) C.1.1 C.1.2.1 d_AR_hasClass_11 (by decide) ?_
    refine lv_goto (tgt := 16) C.1.1 C.1.2.1 d_AR_hasClass_12 (by decide) ?_
    cases hf
    exact hq_zret C I (hp_z_nar (x := 1) (Or.inr rfl)).1 (by decide) (by decide) d_AR_hasClass_16
set_option maxRecDepth 100000 in
set_option maxHeartbeats 4000000 in
theorem k_EL_deepestGiver_L44 {p : Program} {l : Launch} {e : Env} {s : State} {m : MethodId} {args : Array Value} {below : List Frame} {meth : Method} {c : Code} {G : hp_G} {B : Nat} (C : hq_C p s m args meth c b_EL_deepestGiver 6 ((Option.some Jvm.ClassFile.FieldType.int)) "LayeredLauncher$EntryList" "deepestGiver" gt G vwCl aTs) (k5 : Nat → Int32 → Int32 → Int32 → Int32 → hp_H → Option (Int32 × hp_H)) (hk5 : ∀ (t0 : Nat) (y1 : Int32) (y2 : Int32) (y3 : Int32) (y4 : Int32) (h : hp_H) (out : Int32 × hp_H), k5 t0 y1 y2 y3 y4 h = some out → ∀ (H : Heap) (locs : List Loc), hp_I G vwCl B s.heap h H locs → ∀ ls : Array Slot, lv_has ls 6 [(0, va_rf (some t0)), (1, .int y1), (2, .int y2), (3, .int y3), (4, .int y4)] → W p l e ({ frames := 1, cells := 0, slots := 0, locals := 21 }) s m args below meth c H locs 0 0 (MQ below (hq_Q G vwCl B (some (.int out.1)) out.2) args s 0 0 (fun q => B ≤ q)) (F0 m 5 ls [])) : ∀ (t0 : Nat) (y1 : Int32) (y2 : Int32) (y3 : Int32) (y4 : Int32) (s0 : Int32) (h : hp_H) (out : Int32 × hp_H), f_EL_deepestGiver_L44 k5 t0 y1 y2 y3 y4 s0 h = some out → ∀ (H : Heap) (locs : List Loc), hp_I G vwCl B s.heap h H locs → ∀ ls : Array Slot, lv_has ls 6 [(0, va_rf (some t0)), (1, .int y1), (2, .int y2), (3, .int y3), (4, .int y4)] → W p l e ({ frames := 1, cells := 0, slots := 0, locals := 21 }) s m args below meth c H locs 0 0 (MQ below (hq_Q G vwCl B (some (.int out.1)) out.2) args s 0 0 (fun q => B ≤ q)) (F0 m 44 ls [.int s0]) := by
  intro t0 y1 y2 y3 y4 s0 h out hf H locs I ls hl
  unfold f_EL_deepestGiver_L44 at hf
  refine lv_istore (i := 5) (lv' := [(5, .int s0), (0, va_rf (some t0)), (1, .int y1), (2, .int y2), (3, .int y3), (4, .int y4)]) C.1.1 C.1.2.1 d_EL_deepestGiver_44 hl (by decide) (by first | rfl | simp [hq_cat, hq_catI, hq_catL]) (fun ls hl => ?_)
  refine lv_iload C.1.1 C.1.2.1 d_EL_deepestGiver_46 (lv_at hl 0 rfl) ?_
  refine lv_if_eq (tgt := 75) C.1.1 C.1.2.1 d_EL_deepestGiver_48 (by decide) (fun c18 => ?_) (fun c18 => ?_)
  · rw [if_pos c18] at hf
    refine lv_iinc (v := (y4 + 1)) (lv' := [(4, .int (y4 + 1)), (5, .int s0), (0, va_rf (some t0)), (1, .int y1), (2, .int y2), (3, .int y3)]) C.1.1 C.1.2.1 d_EL_deepestGiver_75 hl (k := 5) rfl rfl (by decide) (by first | rfl | simp [hq_cat, hq_catI, hq_catL]) (fun ls hl => ?_)
    refine lv_goto (tgt := 5) C.1.1 C.1.2.1 d_EL_deepestGiver_78 (by decide) ?_
    refine W.widen (k := 0) (n := 0) (by decide) (by decide) ?_
    exact hk5 t0 y1 y2 y3 (y4 + 1) h _ hf _ _ I ls (lv_sub hl [2, 3, 4, 5, 0] rfl)
  · rw [if_neg c18] at hf
    refine lv_iload_n C.1.1 C.1.2.1 d_EL_deepestGiver_51 rfl (lv_at hl 4 rfl) ?_
    refine lv_iconst (v := -1) C.1.1 C.1.2.1 d_EL_deepestGiver_52 (by decide) ?_
    refine lv_icmp_eq (tgt := 72) C.1.1 C.1.2.1 d_EL_deepestGiver_53 (by decide) (fun c19 => ?_) (fun c19 => ?_)
    · rw [if_pos c19] at hf
      refine lv_iload C.1.1 C.1.2.1 d_EL_deepestGiver_72 (lv_at hl 5 rfl) ?_
      refine lv_istore_n (i := 3) (lv' := [(3, .int y4), (5, .int s0), (0, va_rf (some t0)), (1, .int y1), (2, .int y2), (4, .int y4)]) C.1.1 C.1.2.1 d_EL_deepestGiver_74 rfl hl (by decide) (by first | rfl | simp [hq_cat, hq_catI, hq_catL]) (fun ls hl => ?_)
      refine lv_iinc (v := (y4 + 1)) (lv' := [(4, .int (y4 + 1)), (3, .int y4), (5, .int s0), (0, va_rf (some t0)), (1, .int y1), (2, .int y2)]) C.1.1 C.1.2.1 d_EL_deepestGiver_75 hl (k := 5) rfl rfl (by decide) (by first | rfl | simp [hq_cat, hq_catI, hq_catL]) (fun ls hl => ?_)
      refine lv_goto (tgt := 5) C.1.1 C.1.2.1 d_EL_deepestGiver_78 (by decide) ?_
      refine W.widen (k := 0) (n := 0) (by decide) (by decide) ?_
      exact hk5 t0 y1 y2 y4 (y4 + 1) h _ hf _ _ I ls (lv_sub hl [3, 4, 5, 1, 0] rfl)
    · rw [if_neg c19] at hf
      refine hq_aload_n C.1.1 C.1.2.1 d_EL_deepestGiver_56 rfl (lv_at hl 1 rfl) ?_
      replace hf := Option.bind_eq_some_iff.mp hf
      obtain ⟨x20, e21, hf⟩ := hf
      refine hq_getR C I F_EL_17 e21 d_EL_deepestGiver_57 ?_
      refine lv_iload C.1.1 C.1.2.1 d_EL_deepestGiver_60 (lv_at hl 5 rfl) ?_
      replace hf := Option.bind_eq_some_iff.mp hf
      obtain ⟨x22, e23, hf⟩ := hf
      refine hq_iald C I (t := 0) rfl e23 d_EL_deepestGiver_62 ?_
      refine hq_aload_n C.1.1 C.1.2.1 d_EL_deepestGiver_63 rfl (lv_at hl 1 rfl) ?_
      replace hf := Option.bind_eq_some_iff.mp hf
      obtain ⟨x24, e25, hf⟩ := hf
      refine hq_getR C I F_EL_17 e25 d_EL_deepestGiver_64 ?_
      refine lv_iload_n C.1.1 C.1.2.1 d_EL_deepestGiver_67 rfl (lv_at hl 4 rfl) ?_
      replace hf := Option.bind_eq_some_iff.mp hf
      obtain ⟨x26, e27, hf⟩ := hf
      refine hq_iald C I (t := 0) rfl e27 d_EL_deepestGiver_68 ?_
      refine lv_icmp_le (tgt := 75) C.1.1 C.1.2.1 d_EL_deepestGiver_69 (by decide) (fun c28 => ?_) (fun c28 => ?_)
      · rw [if_pos c28] at hf
        refine lv_iinc (v := (y4 + 1)) (lv' := [(4, .int (y4 + 1)), (5, .int s0), (0, va_rf (some t0)), (1, .int y1), (2, .int y2), (3, .int y3)]) C.1.1 C.1.2.1 d_EL_deepestGiver_75 hl (k := 5) rfl rfl (by decide) (by first | rfl | simp [hq_cat, hq_catI, hq_catL]) (fun ls hl => ?_)
        refine lv_goto (tgt := 5) C.1.1 C.1.2.1 d_EL_deepestGiver_78 (by decide) ?_
        refine W.widen (k := 0) (n := 0) (by decide) (by decide) ?_
        exact hk5 t0 y1 y2 y3 (y4 + 1) h _ hf _ _ I ls (lv_sub hl [2, 3, 4, 5, 0] rfl)
      · rw [if_neg c28] at hf
        refine lv_iload C.1.1 C.1.2.1 d_EL_deepestGiver_72 (lv_at hl 5 rfl) ?_
        refine lv_istore_n (i := 3) (lv' := [(3, .int y4), (5, .int s0), (0, va_rf (some t0)), (1, .int y1), (2, .int y2), (4, .int y4)]) C.1.1 C.1.2.1 d_EL_deepestGiver_74 rfl hl (by decide) (by first | rfl | simp [hq_cat, hq_catI, hq_catL]) (fun ls hl => ?_)
        refine lv_iinc (v := (y4 + 1)) (lv' := [(4, .int (y4 + 1)), (3, .int y4), (5, .int s0), (0, va_rf (some t0)), (1, .int y1), (2, .int y2)]) C.1.1 C.1.2.1 d_EL_deepestGiver_75 hl (k := 5) rfl rfl (by decide) (by first | rfl | simp [hq_cat, hq_catI, hq_catL]) (fun ls hl => ?_)
        refine lv_goto (tgt := 5) C.1.1 C.1.2.1 d_EL_deepestGiver_78 (by decide) ?_
        refine W.widen (k := 0) (n := 0) (by decide) (by decide) ?_
        exact hk5 t0 y1 y2 y4 (y4 + 1) h _ hf _ _ I ls (lv_sub hl [3, 4, 5, 1, 0] rfl)
set_option maxRecDepth 100000 in
set_option maxHeartbeats 4000000 in
theorem k_EL_deepestGiver_L43 {p : Program} {l : Launch} {e : Env} {s : State} {m : MethodId} {args : Array Value} {below : List Frame} {meth : Method} {c : Code} {G : hp_G} {B : Nat} (C : hq_C p s m args meth c b_EL_deepestGiver 6 ((Option.some Jvm.ClassFile.FieldType.int)) "LayeredLauncher$EntryList" "deepestGiver" gt G vwCl aTs) (k5 : Nat → Int32 → Int32 → Int32 → Int32 → hp_H → Option (Int32 × hp_H)) (hk5 : ∀ (t0 : Nat) (y1 : Int32) (y2 : Int32) (y3 : Int32) (y4 : Int32) (h : hp_H) (out : Int32 × hp_H), k5 t0 y1 y2 y3 y4 h = some out → ∀ (H : Heap) (locs : List Loc), hp_I G vwCl B s.heap h H locs → ∀ ls : Array Slot, lv_has ls 6 [(0, va_rf (some t0)), (1, .int y1), (2, .int y2), (3, .int y3), (4, .int y4)] → W p l e ({ frames := 1, cells := 0, slots := 0, locals := 21 }) s m args below meth c H locs 0 0 (MQ below (hq_Q G vwCl B (some (.int out.1)) out.2) args s 0 0 (fun q => B ≤ q)) (F0 m 5 ls [])) : ∀ (t0 : Nat) (y1 : Int32) (y2 : Int32) (y3 : Int32) (y4 : Int32) (h : hp_H) (out : Int32 × hp_H), f_EL_deepestGiver_L43 k5 t0 y1 y2 y3 y4 h = some out → ∀ (H : Heap) (locs : List Loc), hp_I G vwCl B s.heap h H locs → ∀ ls : Array Slot, lv_has ls 6 [(0, va_rf (some t0)), (1, .int y1), (2, .int y2), (3, .int y3), (4, .int y4)] → W p l e ({ frames := 1, cells := 0, slots := 0, locals := 21 }) s m args below meth c H locs 0 0 (MQ below (hq_Q G vwCl B (some (.int out.1)) out.2) args s 0 0 (fun q => B ≤ q)) (F0 m 43 ls []) := by
  intro t0 y1 y2 y3 y4 h out hf H locs I ls hl
  unfold f_EL_deepestGiver_L43 at hf
  refine lv_iconst (v := 0) C.1.1 C.1.2.1 d_EL_deepestGiver_43 (by decide) ?_
  refine W.widen (k := 0) (n := 0) (by decide) (by decide) ?_
  exact k_EL_deepestGiver_L44 C _ hk5 t0 y1 y2 y3 y4 (0 : Int32) h _ hf _ _ I ls (lv_sub hl [0, 1, 2, 3, 4] rfl)
set_option maxRecDepth 100000 in
set_option maxHeartbeats 4000000 in
theorem k_EL_deepestGiver_L5 {p : Program} {l : Launch} {e : Env} {s : State} {m : MethodId} {args : Array Value} {below : List Frame} {meth : Method} {c : Code} {G : hp_G} {B : Nat} (C : hq_C p s m args meth c b_EL_deepestGiver 6 ((Option.some Jvm.ClassFile.FieldType.int)) "LayeredLauncher$EntryList" "deepestGiver" gt G vwCl aTs) : ∀ (n : Nat) (t0 : Nat) (y1 : Int32) (y2 : Int32) (y3 : Int32) (y4 : Int32) (h : hp_H) (out : Int32 × hp_H), f_EL_deepestGiver_L5 n t0 y1 y2 y3 y4 h = some out → ∀ (H : Heap) (locs : List Loc), hp_I G vwCl B s.heap h H locs → ∀ ls : Array Slot, lv_has ls 6 [(0, va_rf (some t0)), (1, .int y1), (2, .int y2), (3, .int y3), (4, .int y4)] → W p l e ({ frames := 1, cells := 0, slots := 0, locals := 21 }) s m args below meth c H locs 0 0 (MQ below (hq_Q G vwCl B (some (.int out.1)) out.2) args s 0 0 (fun q => B ≤ q)) (F0 m 5 ls []) := by
  intro n
  induction n with
  | zero => intro t0 y1 y2 y3 y4 h out hf; simp [f_EL_deepestGiver_L5] at hf
  | succ n ih =>
    intro t0 y1 y2 y3 y4 h out hf H locs I ls hl
    simp only [f_EL_deepestGiver_L5] at hf
    refine lv_iload C.1.1 C.1.2.1 d_EL_deepestGiver_5 (lv_at hl 4 rfl) ?_
    refine hq_aload_n C.1.1 C.1.2.1 d_EL_deepestGiver_7 rfl (lv_at hl 0 rfl) ?_
    replace hf := Option.bind_eq_some_iff.mp hf
    obtain ⟨x1, e2, hf⟩ := hf
    refine hq_getI C I F_EL_30 e2 d_EL_deepestGiver_8 ?_
    refine lv_icmp_ge (tgt := 81) C.1.1 C.1.2.1 d_EL_deepestGiver_11 (by decide) (fun c3 => ?_) (fun c3 => ?_)
    · rw [if_pos c3] at hf
      refine lv_iload_n C.1.1 C.1.2.1 d_EL_deepestGiver_81 rfl (lv_at hl 3 rfl) ?_
      cases hf
      exact hq_iret C I (by decide) (by decide) d_EL_deepestGiver_82
    · rw [if_neg c3] at hf
      refine hq_aload_n C.1.1 C.1.2.1 d_EL_deepestGiver_14 rfl (lv_at hl 0 rfl) ?_
      replace hf := Option.bind_eq_some_iff.mp hf
      obtain ⟨x4, e5, hf⟩ := hf
      refine hq_getR C I F_EL_17 e5 d_EL_deepestGiver_15 ?_
      refine lv_iload C.1.1 C.1.2.1 d_EL_deepestGiver_18 (lv_at hl 4 rfl) ?_
      replace hf := Option.bind_eq_some_iff.mp hf
      obtain ⟨x6, e7, hf⟩ := hf
      refine hq_iald C I (t := 0) rfl e7 d_EL_deepestGiver_20 ?_
      refine lv_iload_n C.1.1 C.1.2.1 d_EL_deepestGiver_21 rfl (lv_at hl 1 rfl) ?_
      refine lv_icmp_lt (tgt := 43) C.1.1 C.1.2.1 d_EL_deepestGiver_22 (by decide) (fun c8 => ?_) (fun c8 => ?_)
      · rw [if_pos c8] at hf
        refine W.widen (k := 0) (n := 0) (by decide) (by decide) ?_
        exact k_EL_deepestGiver_L43 C _ ih t0 y1 y2 y3 y4 h _ hf _ _ I ls (lv_sub hl [0, 1, 2, 3, 4] rfl)
      · rw [if_neg c8] at hf
        refine hq_aload_n C.1.1 C.1.2.1 d_EL_deepestGiver_25 rfl (lv_at hl 0 rfl) ?_
        replace hf := Option.bind_eq_some_iff.mp hf
        obtain ⟨x9, e10, hf⟩ := hf
        refine hq_getR C I F_EL_11 e10 d_EL_deepestGiver_26 ?_
        refine lv_iload C.1.1 C.1.2.1 d_EL_deepestGiver_29 (lv_at hl 4 rfl) ?_
        replace hf := Option.bind_eq_some_iff.mp hf
        obtain ⟨x11, e12, hf⟩ := hf
        refine hq_aald C I (t := 4) rfl e12 d_EL_deepestGiver_31 ?_
        refine lv_iload_n C.1.1 C.1.2.1 d_EL_deepestGiver_32 rfl (lv_at hl 2 rfl) ?_
        replace hf := Option.bind_eq_some_iff.mp hf
        obtain ⟨b15, e16, hf⟩ := hf
        obtain ⟨e16r, _, e16c⟩ := hp_o_inv e16
        replace hf := Option.bind_eq_some_iff.mp hf
        obtain ⟨q13, e14, hf⟩ := hf
        refine hq_callW gt_good C I hl.1 (k_AR_hasClass l G B _ b15 y2 q13 e14) M_EL_42 e16c e16r ⟨rfl, rfl⟩ ⟨Nat.le_of_ble_eq_true rfl, Nat.le_of_ble_eq_true rfl⟩ rfl (Nat.le_of_ble_eq_true rfl) d_EL_deepestGiver_33 ⟨Nat.le_of_ble_eq_true rfl, Nat.le_of_ble_eq_true rfl⟩ (fun H locs I => ?_)
        refine W.widen (k := 0) (n := 0) (by decide) (by decide) ?_
        refine lv_if_eq (tgt := 43) C.1.1 C.1.2.1 d_EL_deepestGiver_36 (by decide) (fun c17 => ?_) (fun c17 => ?_)
        · rw [if_pos c17] at hf
          refine W.widen (k := 0) (n := 0) (by decide) (by decide) ?_
          exact k_EL_deepestGiver_L43 C _ ih t0 y1 y2 y3 y4 q13.2 _ hf _ _ I ls (lv_sub hl [0, 1, 2, 3, 4] rfl)
        · rw [if_neg c17] at hf
          refine lv_iconst (v := 1) C.1.1 C.1.2.1 d_EL_deepestGiver_39 (by decide) ?_
          refine lv_goto (tgt := 44) C.1.1 C.1.2.1 d_EL_deepestGiver_40 (by decide) ?_
          refine W.widen (k := 0) (n := 0) (by decide) (by decide) ?_
          exact k_EL_deepestGiver_L44 C _ ih t0 y1 y2 y3 y4 (1 : Int32) q13.2 _ hf _ _ I ls (lv_sub hl [0, 1, 2, 3, 4] rfl)
set_option maxRecDepth 100000 in
set_option maxHeartbeats 4000000 in
theorem k_EL_deepestGiver (l : Launch) (G : hp_G) (B : Nat) (h : hp_H) (t0 : Nat) (p1 : Int32) (p2 : Int32) (out : Int32 × hp_H) (hf : f_EL_deepestGiver h t0 p1 p2 = some out) : Met l y_EL_deepestGiver (.code y_EL_deepestGiver b_EL_deepestGiver 6 ((Option.some Jvm.ClassFile.FieldType.int)) :: gt) ({ frames := 1, cells := 0, slots := 0, locals := 21 }) (hq_Pc G vwCl aTs B h [.ref t0, .int p1, .int p2]) (hq_Q G vwCl B (some (.int out.1)) out.2) 0 0 (fun q => B ≤ q) := by
  refine hq_enter (nL := 6) (by decide +kernel) (Nat.le_of_ble_eq_true rfl) ?_
  intro p e s m args below meth c C I ls hl
  have hl : lv_has ls 6 [(0, va_rf (some t0)), (1, .int p1), (2, .int p2)] := hl
  unfold f_EL_deepestGiver at hf
  refine lv_iconst (v := -1) C.1.1 C.1.2.1 d_EL_deepestGiver_0 (by decide) ?_
  refine lv_istore_n (i := 3) (lv' := [(3, .int (-1 : Int32)), (0, va_rf (some t0)), (1, .int p1), (2, .int p2)]) C.1.1 C.1.2.1 d_EL_deepestGiver_1 rfl hl (by decide) (by first | rfl | simp [hq_cat, hq_catI, hq_catL]) (fun ls hl => ?_)
  refine lv_iconst (v := 0) C.1.1 C.1.2.1 d_EL_deepestGiver_2 (by decide) ?_
  refine lv_istore (i := 4) (lv' := [(4, .int (0 : Int32)), (3, .int (-1 : Int32)), (0, va_rf (some t0)), (1, .int p1), (2, .int p2)]) C.1.1 C.1.2.1 d_EL_deepestGiver_3 hl (by decide) (by first | rfl | simp [hq_cat, hq_catI, hq_catL]) (fun ls hl => ?_)
  refine W.widen (k := 0) (n := 0) (by decide) (by decide) ?_
  exact k_EL_deepestGiver_L5 C FU t0 p1 p2 (-1 : Int32) (0 : Int32) h _ hf _ _ I ls (lv_sub hl [2, 3, 4, 1, 0] rfl)
set_option maxRecDepth 100000 in
set_option maxHeartbeats 4000000 in
theorem k_LL_find (l : Launch) (G : hp_G) (B : Nat) (h : hp_H) (t0 : Nat) (p1 : Int32) (p2 : Int32) (out : Int32 × hp_H) (hf : f_LL_find h t0 p1 p2 = some out) : Met l y_LL_find (.code y_LL_find b_LL_find 4 ((Option.some Jvm.ClassFile.FieldType.int)) :: gt) ({ frames := 2, cells := 0, slots := 0, locals := 46 }) (hq_Pc G vwCl aTs B h [.ref t0, .int p1, .int p2]) (hq_Q G vwCl B (some (.int out.1)) out.2) 0 0 (fun q => B ≤ q) := by
  refine hq_enter (nL := 4) (by decide +kernel) (Nat.le_of_ble_eq_true rfl) ?_
  intro p e s m args below meth c C I ls hl
  have hl : lv_has ls 4 [(0, va_rf (some t0)), (1, .int p1), (2, .int p2)] := hl
  unfold f_LL_find at hf
  refine lv_iload_n C.1.1 C.1.2.1 d_LL_find_0 rfl (lv_at hl 1 rfl) ?_
  refine lv_if_lt (tgt := 11) C.1.1 C.1.2.1 d_LL_find_1 (by decide) (fun c1 => ?_) (fun c1 => ?_)
  · rw [if_pos c1] at hf
    refine lv_iconst (v := -1) C.1.1 C.1.2.1 d_LL_find_11 (by decide) ?_
    cases hf
    exact hq_iret C I (by decide) (by decide) d_LL_find_12
  · rw [if_neg c1] at hf
    refine lv_iload_n C.1.1 C.1.2.1 d_LL_find_4 rfl (lv_at hl 2 rfl) ?_
    replace hf := Option.bind_eq_some_iff.mp hf
    obtain ⟨q2, e3, hf⟩ := hf
    refine hq_callS gt_good C I hl.1 (k_LL_isClass l G B _ p2 q2 e3) M_LL_112 ⟨rfl, rfl⟩ ⟨Nat.le_of_ble_eq_true rfl, Nat.le_of_ble_eq_true rfl⟩ rfl (Nat.le_of_ble_eq_true rfl) d_LL_find_5 ⟨Nat.le_of_ble_eq_true rfl, Nat.le_of_ble_eq_true rfl⟩ (fun H locs I => ?_)
    refine W.widen (k := 0) (n := 0) (by decide) (by decide) ?_
    refine lv_if_ne (tgt := 13) C.1.1 C.1.2.1 d_LL_find_8 (by decide) (fun c4 => ?_) (fun c4 => ?_)
    · rw [if_neg c4] at hf
      refine hq_aload_n C.1.1 C.1.2.1 d_LL_find_13 rfl (lv_at hl 0 rfl) ?_
      replace hf := Option.bind_eq_some_iff.mp hf
      obtain ⟨x5, e6, hf⟩ := hf
      refine hq_getR C I F_LL_29 e6 d_LL_find_14 ?_
      refine lv_iload_n C.1.1 C.1.2.1 d_LL_find_17 rfl (lv_at hl 1 rfl) ?_
      refine lv_iload_n C.1.1 C.1.2.1 d_LL_find_18 rfl (lv_at hl 2 rfl) ?_
      replace hf := Option.bind_eq_some_iff.mp hf
      obtain ⟨b9, e10, hf⟩ := hf
      obtain ⟨e10r, _, e10c⟩ := hp_o_inv e10
      replace hf := Option.bind_eq_some_iff.mp hf
      obtain ⟨q7, e8, hf⟩ := hf
      refine hq_callW gt_good C I hl.1 (k_EL_deepestGiver l G B _ b9 p1 p2 q7 e8) M_LL_155 e10c e10r ⟨rfl, rfl⟩ ⟨Nat.le_of_ble_eq_true rfl, Nat.le_of_ble_eq_true rfl⟩ rfl (Nat.le_of_ble_eq_true rfl) d_LL_find_19 ⟨Nat.le_of_ble_eq_true rfl, Nat.le_of_ble_eq_true rfl⟩ (fun H locs I => ?_)
      refine W.widen (k := 0) (n := 0) (by decide) (by decide) ?_
      refine lv_istore_n (i := 3) (lv' := [(3, .int q7.1), (0, va_rf (some t0)), (1, .int p1), (2, .int p2)]) C.1.1 C.1.2.1 d_LL_find_22 rfl hl (by decide) (by first | rfl | simp [hq_cat, hq_catI, hq_catL]) (fun ls hl => ?_)
      refine lv_iload_n C.1.1 C.1.2.1 d_LL_find_23 rfl (lv_at hl 0 rfl) ?_
      refine lv_iconst (v := -1) C.1.1 C.1.2.1 d_LL_find_24 (by decide) ?_
      refine lv_icmp_ne (tgt := 32) C.1.1 C.1.2.1 d_LL_find_25 (by decide) (fun c11 => ?_) (fun c11 => ?_)
      · rw [if_neg c11] at hf
        refine lv_iload_n C.1.1 C.1.2.1 d_LL_find_32 rfl (lv_at hl 0 rfl) ?_
        cases hf
        exact hq_iret C I (by decide) (by decide) d_LL_find_33
      · rw [if_pos c11] at hf
        refine lv_iconst (v := -1) C.1.1 C.1.2.1 d_LL_find_28 (by decide) ?_
        refine lv_goto (tgt := 33) C.1.1 C.1.2.1 d_LL_find_29 (by decide) ?_
        cases hf
        exact hq_iret C I (by decide) (by decide) d_LL_find_33
    · rw [if_pos c4] at hf
      refine lv_iconst (v := -1) C.1.1 C.1.2.1 d_LL_find_11 (by decide) ?_
      cases hf
      exact hq_iret C I (by decide) (by decide) d_LL_find_12
set_option maxRecDepth 100000 in
set_option maxHeartbeats 4000000 in
theorem k_LL_text (l : Launch) (G : hp_G) (B : Nat) (h : hp_H) (t0 : Nat) (p1 : Int32) (p2 : Int32) (out : Int32 × hp_H) (hf : f_LL_text h t0 p1 p2 = some out) : Met l y_LL_text (.code y_LL_text b_LL_text 4 ((Option.some Jvm.ClassFile.FieldType.int)) :: gt) ({ frames := 1, cells := 0, slots := 0, locals := 21 }) (hq_Pc G vwCl aTs B h [.ref t0, .int p1, .int p2]) (hq_Q G vwCl B (some (.int out.1)) out.2) 0 0 (fun q => B ≤ q) := by
  refine hq_enter (nL := 4) (by decide +kernel) (Nat.le_of_ble_eq_true rfl) ?_
  intro p e s m args below meth c C I ls hl
  have hl : lv_has ls 4 [(0, va_rf (some t0)), (1, .int p1), (2, .int p2)] := hl
  unfold f_LL_text at hf
  refine hq_aload_n C.1.1 C.1.2.1 d_LL_text_0 rfl (lv_at hl 0 rfl) ?_
  refine lv_iload_n C.1.1 C.1.2.1 d_LL_text_1 rfl (lv_at hl 1 rfl) ?_
  replace hf := Option.bind_eq_some_iff.mp hf
  obtain ⟨b3, e4, hf⟩ := hf
  obtain ⟨e4r, _, e4c⟩ := hp_o_inv e4
  cases e4r
  replace hf := Option.bind_eq_some_iff.mp hf
  obtain ⟨q1, e2, hf⟩ := hf
  refine hq_callW gt_good C I hl.1 (k_LL_artifactAt l G B _ t0 p1 q1 e2) M_LL_82 e4c rfl ⟨rfl, rfl⟩ ⟨Nat.le_of_ble_eq_true rfl, Nat.le_of_ble_eq_true rfl⟩ rfl (Nat.le_of_ble_eq_true rfl) d_LL_text_2 ⟨Nat.le_of_ble_eq_true rfl, Nat.le_of_ble_eq_true rfl⟩ (fun H locs I => ?_)
  refine W.widen (k := 0) (n := 0) (by decide) (by decide) ?_
  refine hq_astore_n (r := q1.1) (i := 3) (lv' := [(3, va_rf q1.1), (0, va_rf (some t0)), (1, .int p1), (2, .int p2)]) C.1.1 C.1.2.1 d_LL_text_5 rfl hl (by decide) (by first | rfl | simp [hq_cat, hq_catI, hq_catL]) (fun ls hl => ?_)
  refine hq_aload_n C.1.1 C.1.2.1 d_LL_text_6 rfl (lv_at hl 0 rfl) ?_
  refine hq_ifnonnull (tgt := 12) C.1.1 C.1.2.1 d_LL_text_7 (by decide) (fun c5 => ?_) (fun c5 => ?_)
  · rw [if_neg c5] at hf
    refine lv_iload_n C.1.1 C.1.2.1 d_LL_text_12 rfl (lv_at hl 3 rfl) ?_
    refine lv_iconst (v := -1) C.1.1 C.1.2.1 d_LL_text_13 (by decide) ?_
    refine lv_icmp_ne (tgt := 23) C.1.1 C.1.2.1 d_LL_text_14 (by decide) (fun c6 => ?_) (fun c6 => ?_)
    · rw [if_neg c6] at hf
      refine lv_iload_n C.1.1 C.1.2.1 d_LL_text_23 rfl (lv_at hl 3 rfl) ?_
      refine lv_if_lt (tgt := 36) C.1.1 C.1.2.1 d_LL_text_24 (by decide) (fun c7 => ?_) (fun c7 => ?_)
      · rw [if_pos c7] at hf
        refine lv_iconst (v := -1) C.1.1 C.1.2.1 d_LL_text_36 (by decide) ?_
        cases hf
        exact hq_iret C I (by decide) (by decide) d_LL_text_37
      · rw [if_neg c7] at hf
        refine lv_iload_n C.1.1 C.1.2.1 d_LL_text_27 rfl (lv_at hl 3 rfl) ?_
        refine hq_aload_n C.1.1 C.1.2.1 d_LL_text_28 rfl (lv_at hl 0 rfl) ?_
        replace hf := Option.bind_eq_some_iff.mp hf
        obtain ⟨x8, e9, hf⟩ := hf
        refine hq_getR C I F_LL_159 e9 d_LL_text_29 ?_
        replace hf := Option.bind_eq_some_iff.mp hf
        obtain ⟨x10, e11, hf⟩ := hf
        refine hq_alen C I (t := 2) rfl e11 d_LL_text_32 ?_
        refine lv_icmp_lt (tgt := 38) C.1.1 C.1.2.1 d_LL_text_33 (by decide) (fun c12 => ?_) (fun c12 => ?_)
        · rw [if_pos c12] at hf
          refine hq_aload_n C.1.1 C.1.2.1 d_LL_text_38 rfl (lv_at hl 0 rfl) ?_
          replace hf := Option.bind_eq_some_iff.mp hf
          obtain ⟨x13, e14, hf⟩ := hf
          refine hq_getR C I F_LL_159 e14 d_LL_text_39 ?_
          refine lv_iload_n C.1.1 C.1.2.1 d_LL_text_42 rfl (lv_at hl 3 rfl) ?_
          replace hf := Option.bind_eq_some_iff.mp hf
          obtain ⟨x15, e16, hf⟩ := hf
          refine hq_cald C I (t := 2) rfl e16 d_LL_text_43 ?_
          cases hf
          exact hq_iret C I (by decide) (by decide) d_LL_text_44
        · rw [if_neg c12] at hf
          refine lv_iconst (v := -1) C.1.1 C.1.2.1 d_LL_text_36 (by decide) ?_
          cases hf
          exact hq_iret C I (by decide) (by decide) d_LL_text_37
    · rw [if_pos c6] at hf
      refine hq_aload_n C.1.1 C.1.2.1 d_LL_text_17 rfl (lv_at hl 0 rfl) ?_
      replace hf := Option.bind_eq_some_iff.mp hf
      obtain ⟨x17, e18, hf⟩ := hf
      refine hq_getR C I F_LL_159 e18 d_LL_text_18 ?_
      replace hf := Option.bind_eq_some_iff.mp hf
      obtain ⟨x19, e20, hf⟩ := hf
      refine hq_alen C I (t := 2) rfl e20 d_LL_text_21 ?_
      cases hf
      exact hq_iret C I (by decide) (by decide) d_LL_text_22
  · rw [if_pos c5] at hf
    refine lv_iconst (v := -1) C.1.1 C.1.2.1 d_LL_text_10 (by decide) ?_
    cases hf
    exact hq_iret C I (by decide) (by decide) d_LL_text_11
set_option maxRecDepth 100000 in
set_option maxHeartbeats 4000000 in
theorem k_LL_retiredArtifacts_L4 {p : Program} {l : Launch} {e : Env} {s : State} {m : MethodId} {args : Array Value} {below : List Frame} {meth : Method} {c : Code} {G : hp_G} {B : Nat} (C : hq_C p s m args meth c b_LL_retiredArtifacts 3 ((Option.some Jvm.ClassFile.FieldType.int)) "LayeredLauncher" "retiredArtifacts" gt G vwCl aTs) : ∀ (n : Nat) (t0 : Nat) (y1 : Int32) (y2 : Int32) (h : hp_H) (out : Int32 × hp_H), f_LL_retiredArtifacts_L4 n t0 y1 y2 h = some out → ∀ (H : Heap) (locs : List Loc), hp_I G vwCl B s.heap h H locs → ∀ ls : Array Slot, lv_has ls 3 [(0, va_rf (some t0)), (1, .int y1), (2, .int y2)] → W p l e ({ frames := 0, cells := 0, slots := 0, locals := 0 }) s m args below meth c H locs 0 0 (MQ below (hq_Q G vwCl B (some (.int out.1)) out.2) args s 0 0 (fun q => B ≤ q)) (F0 m 4 ls []) := by
  intro n
  induction n with
  | zero => intro t0 y1 y2 h out hf; simp [f_LL_retiredArtifacts_L4] at hf
  | succ n ih =>
    intro t0 y1 y2 h out hf H locs I ls hl
    simp only [f_LL_retiredArtifacts_L4] at hf
    refine lv_iload_n C.1.1 C.1.2.1 d_LL_retiredArtifacts_4 rfl (lv_at hl 2 rfl) ?_
    refine hq_aload_n C.1.1 C.1.2.1 d_LL_retiredArtifacts_5 rfl (lv_at hl 0 rfl) ?_
    replace hf := Option.bind_eq_some_iff.mp hf
    obtain ⟨x1, e2, hf⟩ := hf
    refine hq_getI C I F_LL_22 e2 d_LL_retiredArtifacts_6 ?_
    refine lv_icmp_ge (tgt := 33) C.1.1 C.1.2.1 d_LL_retiredArtifacts_9 (by decide) (fun c3 => ?_) (fun c3 => ?_)
    · rw [if_pos c3] at hf
      refine lv_iload_n C.1.1 C.1.2.1 d_LL_retiredArtifacts_33 rfl (lv_at hl 1 rfl) ?_
      cases hf
      exact hq_iret C I (by decide) (by decide) d_LL_retiredArtifacts_34
    · rw [if_neg c3] at hf
      refine hq_aload_n C.1.1 C.1.2.1 d_LL_retiredArtifacts_12 rfl (lv_at hl 0 rfl) ?_
      replace hf := Option.bind_eq_some_iff.mp hf
      obtain ⟨x4, e5, hf⟩ := hf
      refine hq_getR C I F_LL_18 e5 d_LL_retiredArtifacts_13 ?_
      refine lv_iload_n C.1.1 C.1.2.1 d_LL_retiredArtifacts_16 rfl (lv_at hl 2 rfl) ?_
      replace hf := Option.bind_eq_some_iff.mp hf
      obtain ⟨x6, e7, hf⟩ := hf
      refine hq_aald C I (t := 4) rfl e7 d_LL_retiredArtifacts_17 ?_
      replace hf := Option.bind_eq_some_iff.mp hf
      obtain ⟨x8, e9, hf⟩ := hf
      refine hq_getI C I F_LL_120 e9 d_LL_retiredArtifacts_18 ?_
      refine lv_if_eq (tgt := 27) C.1.1 C.1.2.1 d_LL_retiredArtifacts_21 (by decide) (fun c10 => ?_) (fun c10 => ?_)
      · rw [if_pos c10] at hf
        refine lv_iinc (v := (y2 + 1)) (lv' := [(2, .int (y2 + 1)), (0, va_rf (some t0)), (1, .int y1)]) C.1.1 C.1.2.1 d_LL_retiredArtifacts_27 hl (k := 2) rfl rfl (by decide) (by first | rfl | simp [hq_cat, hq_catI, hq_catL]) (fun ls hl => ?_)
        refine lv_goto (tgt := 4) C.1.1 C.1.2.1 d_LL_retiredArtifacts_30 (by decide) ?_
        refine W.widen (k := 0) (n := 0) (by decide) (by decide) ?_
        exact ih t0 y1 (y2 + 1) h _ hf _ _ I ls (lv_sub hl [1, 2, 0] rfl)
      · rw [if_neg c10] at hf
        refine lv_iinc (v := (y1 + 1)) (lv' := [(1, .int (y1 + 1)), (0, va_rf (some t0)), (2, .int y2)]) C.1.1 C.1.2.1 d_LL_retiredArtifacts_24 hl (k := 1) rfl rfl (by decide) (by first | rfl | simp [hq_cat, hq_catI, hq_catL]) (fun ls hl => ?_)
        refine lv_iinc (v := (y2 + 1)) (lv' := [(2, .int (y2 + 1)), (1, .int (y1 + 1)), (0, va_rf (some t0))]) C.1.1 C.1.2.1 d_LL_retiredArtifacts_27 hl (k := 2) rfl rfl (by decide) (by first | rfl | simp [hq_cat, hq_catI, hq_catL]) (fun ls hl => ?_)
        refine lv_goto (tgt := 4) C.1.1 C.1.2.1 d_LL_retiredArtifacts_30 (by decide) ?_
        refine W.widen (k := 0) (n := 0) (by decide) (by decide) ?_
        exact ih t0 (y1 + 1) (y2 + 1) h _ hf _ _ I ls (lv_sub hl [2, 1, 0] rfl)
set_option maxRecDepth 100000 in
set_option maxHeartbeats 4000000 in
theorem k_LL_retiredArtifacts (l : Launch) (G : hp_G) (B : Nat) (h : hp_H) (t0 : Nat) (out : Int32 × hp_H) (hf : f_LL_retiredArtifacts h t0 = some out) : Met l y_LL_retiredArtifacts (.code y_LL_retiredArtifacts b_LL_retiredArtifacts 3 ((Option.some Jvm.ClassFile.FieldType.int)) :: gt) ({ frames := 0, cells := 0, slots := 0, locals := 0 }) (hq_Pc G vwCl aTs B h [.ref t0]) (hq_Q G vwCl B (some (.int out.1)) out.2) 0 0 (fun q => B ≤ q) := by
  refine hq_enter (nL := 3) (by decide +kernel) (Nat.le_of_ble_eq_true rfl) ?_
  intro p e s m args below meth c C I ls hl
  have hl : lv_has ls 3 [(0, va_rf (some t0))] := hl
  unfold f_LL_retiredArtifacts at hf
  refine lv_iconst (v := 0) C.1.1 C.1.2.1 d_LL_retiredArtifacts_0 (by decide) ?_
  refine lv_istore_n (i := 1) (lv' := [(1, .int (0 : Int32)), (0, va_rf (some t0))]) C.1.1 C.1.2.1 d_LL_retiredArtifacts_1 rfl hl (by decide) (by first | rfl | simp [hq_cat, hq_catI, hq_catL]) (fun ls hl => ?_)
  refine lv_iconst (v := 0) C.1.1 C.1.2.1 d_LL_retiredArtifacts_2 (by decide) ?_
  refine lv_istore_n (i := 2) (lv' := [(2, .int (0 : Int32)), (1, .int (0 : Int32)), (0, va_rf (some t0))]) C.1.1 C.1.2.1 d_LL_retiredArtifacts_3 rfl hl (by decide) (by first | rfl | simp [hq_cat, hq_catI, hq_catL]) (fun ls hl => ?_)
  refine W.widen (k := 0) (n := 0) (by decide) (by decide) ?_
  exact k_LL_retiredArtifacts_L4 C FU t0 (0 : Int32) (0 : Int32) h _ hf _ _ I ls (lv_sub hl [2, 1, 0] rfl)
set_option maxRecDepth 100000 in
set_option maxHeartbeats 4000000 in
theorem k_JM_max (l : Launch) (G : hp_G) (B : Nat) (h : hp_H) (p0 : Int32) (p1 : Int32) (out : Int32 × hp_H) (hf : f_JM_max h p0 p1 = some out) : Met l y_JM_max (.code y_JM_max b_JM_max 2 ((Option.some Jvm.ClassFile.FieldType.int)) :: gt) ({ frames := 0, cells := 0, slots := 0, locals := 0 }) (hq_Pc G vwCl aTs B h [.int p0, .int p1]) (hq_Q G vwCl B (some (.int out.1)) out.2) 0 0 (fun q => B ≤ q) := by
  refine hq_enterF (nL := 2) (by decide +kernel) (Nat.le_of_ble_eq_true rfl) ?_
  intro p e s m args below meth c C I ls hl
  have hl : lv_has ls 2 [(0, .int p0), (1, .int p1)] := hl
  unfold f_JM_max at hf
  refine lv_iload_n C.1.1 C.1.2.1 d_JM_max_0 rfl (lv_at hl 0 rfl) ?_
  refine lv_iload_n C.1.1 C.1.2.1 d_JM_max_1 rfl (lv_at hl 1 rfl) ?_
  refine lv_icmp_lt (tgt := 9) C.1.1 C.1.2.1 d_JM_max_2 (by decide) (fun c1 => ?_) (fun c1 => ?_)
  · rw [if_pos c1] at hf
    refine lv_iload_n C.1.1 C.1.2.1 d_JM_max_9 rfl (lv_at hl 1 rfl) ?_
    cases hf
    exact hq_iret C I (by decide) (by decide) d_JM_max_10
  · rw [if_neg c1] at hf
    refine lv_iload_n C.1.1 C.1.2.1 d_JM_max_5 rfl (lv_at hl 0 rfl) ?_
    refine lv_goto (tgt := 10) C.1.1 C.1.2.1 d_JM_max_6 (by decide) ?_
    cases hf
    exact hq_iret C I (by decide) (by decide) d_JM_max_10
set_option maxRecDepth 100000 in
set_option maxHeartbeats 4000000 in
theorem k_EL_greatestDepth_L4 {p : Program} {l : Launch} {e : Env} {s : State} {m : MethodId} {args : Array Value} {below : List Frame} {meth : Method} {c : Code} {G : hp_G} {B : Nat} (C : hq_C p s m args meth c b_EL_greatestDepth 3 ((Option.some Jvm.ClassFile.FieldType.int)) "LayeredLauncher$EntryList" "greatestDepth" gt G vwCl aTs) : ∀ (n : Nat) (t0 : Nat) (y1 : Int32) (y2 : Int32) (h : hp_H) (out : Int32 × hp_H), f_EL_greatestDepth_L4 n t0 y1 y2 h = some out → ∀ (H : Heap) (locs : List Loc), hp_I G vwCl B s.heap h H locs → ∀ ls : Array Slot, lv_has ls 3 [(0, va_rf (some t0)), (1, .int y1), (2, .int y2)] → W p l e ({ frames := 1, cells := 0, slots := 0, locals := 21 }) s m args below meth c H locs 0 0 (MQ below (hq_Q G vwCl B (some (.int out.1)) out.2) args s 0 0 (fun q => B ≤ q)) (F0 m 4 ls []) := by
  intro n
  induction n with
  | zero => intro t0 y1 y2 h out hf; simp [f_EL_greatestDepth_L4] at hf
  | succ n ih =>
    intro t0 y1 y2 h out hf H locs I ls hl
    simp only [f_EL_greatestDepth_L4] at hf
    refine lv_iload_n C.1.1 C.1.2.1 d_EL_greatestDepth_4 rfl (lv_at hl 2 rfl) ?_
    refine hq_aload_n C.1.1 C.1.2.1 d_EL_greatestDepth_5 rfl (lv_at hl 0 rfl) ?_
    replace hf := Option.bind_eq_some_iff.mp hf
    obtain ⟨x1, e2, hf⟩ := hf
    refine hq_getI C I F_EL_30 e2 d_EL_greatestDepth_6 ?_
    refine lv_icmp_ge (tgt := 29) C.1.1 C.1.2.1 d_EL_greatestDepth_9 (by decide) (fun c3 => ?_) (fun c3 => ?_)
    · rw [if_pos c3] at hf
      refine lv_iload_n C.1.1 C.1.2.1 d_EL_greatestDepth_29 rfl (lv_at hl 1 rfl) ?_
      cases hf
      exact hq_iret C I (by decide) (by decide) d_EL_greatestDepth_30
    · rw [if_neg c3] at hf
      refine lv_iload_n C.1.1 C.1.2.1 d_EL_greatestDepth_12 rfl (lv_at hl 1 rfl) ?_
      refine hq_aload_n C.1.1 C.1.2.1 d_EL_greatestDepth_13 rfl (lv_at hl 0 rfl) ?_
      replace hf := Option.bind_eq_some_iff.mp hf
      obtain ⟨x4, e5, hf⟩ := hf
      refine hq_getR C I F_EL_17 e5 d_EL_greatestDepth_14 ?_
      refine lv_iload_n C.1.1 C.1.2.1 d_EL_greatestDepth_17 rfl (lv_at hl 2 rfl) ?_
      replace hf := Option.bind_eq_some_iff.mp hf
      obtain ⟨x6, e7, hf⟩ := hf
      refine hq_iald C I (t := 0) rfl e7 d_EL_greatestDepth_18 ?_
      replace hf := Option.bind_eq_some_iff.mp hf
      obtain ⟨q8, e9, hf⟩ := hf
      refine hq_callS gt_good C I hl.1 (k_JM_max l G B _ y1 x6 q8 e9) M_EL_46 ⟨rfl, rfl⟩ ⟨Nat.le_of_ble_eq_true rfl, Nat.le_of_ble_eq_true rfl⟩ rfl (Nat.le_of_ble_eq_true rfl) d_EL_greatestDepth_19 ⟨Nat.le_of_ble_eq_true rfl, Nat.le_of_ble_eq_true rfl⟩ (fun H locs I => ?_)
      refine W.widen (k := 0) (n := 0) (by decide) (by decide) ?_
      refine lv_istore_n (i := 1) (lv' := [(1, .int q8.1), (0, va_rf (some t0)), (2, .int y2)]) C.1.1 C.1.2.1 d_EL_greatestDepth_22 rfl hl (by decide) (by first | rfl | simp [hq_cat, hq_catI, hq_catL]) (fun ls hl => ?_)
      refine lv_iinc (v := (y2 + 1)) (lv' := [(2, .int (y2 + 1)), (1, .int q8.1), (0, va_rf (some t0))]) C.1.1 C.1.2.1 d_EL_greatestDepth_23 hl (k := 2) rfl rfl (by decide) (by first | rfl | simp [hq_cat, hq_catI, hq_catL]) (fun ls hl => ?_)
      refine lv_goto (tgt := 4) C.1.1 C.1.2.1 d_EL_greatestDepth_26 (by decide) ?_
      refine W.widen (k := 0) (n := 0) (by decide) (by decide) ?_
      exact ih t0 q8.1 (y2 + 1) q8.2 _ hf _ _ I ls (lv_sub hl [2, 1, 0] rfl)
set_option maxRecDepth 100000 in
set_option maxHeartbeats 4000000 in
theorem k_EL_greatestDepth (l : Launch) (G : hp_G) (B : Nat) (h : hp_H) (t0 : Nat) (out : Int32 × hp_H) (hf : f_EL_greatestDepth h t0 = some out) : Met l y_EL_greatestDepth (.code y_EL_greatestDepth b_EL_greatestDepth 3 ((Option.some Jvm.ClassFile.FieldType.int)) :: gt) ({ frames := 1, cells := 0, slots := 0, locals := 21 }) (hq_Pc G vwCl aTs B h [.ref t0]) (hq_Q G vwCl B (some (.int out.1)) out.2) 0 0 (fun q => B ≤ q) := by
  refine hq_enter (nL := 3) (by decide +kernel) (Nat.le_of_ble_eq_true rfl) ?_
  intro p e s m args below meth c C I ls hl
  have hl : lv_has ls 3 [(0, va_rf (some t0))] := hl
  unfold f_EL_greatestDepth at hf
  refine lv_iconst (v := 0) C.1.1 C.1.2.1 d_EL_greatestDepth_0 (by decide) ?_
  refine lv_istore_n (i := 1) (lv' := [(1, .int (0 : Int32)), (0, va_rf (some t0))]) C.1.1 C.1.2.1 d_EL_greatestDepth_1 rfl hl (by decide) (by first | rfl | simp [hq_cat, hq_catI, hq_catL]) (fun ls hl => ?_)
  refine lv_iconst (v := 0) C.1.1 C.1.2.1 d_EL_greatestDepth_2 (by decide) ?_
  refine lv_istore_n (i := 2) (lv' := [(2, .int (0 : Int32)), (1, .int (0 : Int32)), (0, va_rf (some t0))]) C.1.1 C.1.2.1 d_EL_greatestDepth_3 rfl hl (by decide) (by first | rfl | simp [hq_cat, hq_catI, hq_catL]) (fun ls hl => ?_)
  refine W.widen (k := 0) (n := 0) (by decide) (by decide) ?_
  exact k_EL_greatestDepth_L4 C FU t0 (0 : Int32) (0 : Int32) h _ hf _ _ I ls (lv_sub hl [2, 1, 0] rfl)
set_option maxRecDepth 100000 in
set_option maxHeartbeats 4000000 in
theorem k_JI_bitCount (l : Launch) (G : hp_G) (B : Nat) (h : hp_H) (p0 : Int32) (out : Int32 × hp_H) (hf : f_JI_bitCount h p0 = some out) : Met l y_JI_bitCount (.code y_JI_bitCount b_JI_bitCount 1 ((Option.some Jvm.ClassFile.FieldType.int)) :: gt) ({ frames := 0, cells := 0, slots := 0, locals := 0 }) (hq_Pc G vwCl aTs B h [.int p0]) (hq_Q G vwCl B (some (.int out.1)) out.2) 0 0 (fun q => B ≤ q) := by
  refine hq_enterF (nL := 1) (by decide +kernel) (Nat.le_of_ble_eq_true rfl) ?_
  intro p e s m args below meth c C I ls hl
  have hl : lv_has ls 1 [(0, .int p0)] := hl
  unfold f_JI_bitCount at hf
  refine lv_iload_n C.1.1 C.1.2.1 d_JI_bitCount_0 rfl (lv_at hl 0 rfl) ?_
  refine lv_iload_n C.1.1 C.1.2.1 d_JI_bitCount_1 rfl (lv_at hl 0 rfl) ?_
  refine lv_iconst (v := 1) C.1.1 C.1.2.1 d_JI_bitCount_2 (by decide) ?_
  refine lv_iushr (v := ((p0.toUInt32 >>> ((1 : Int32).toUInt32 &&& Int32.toUInt32 31)).toInt32)) C.1.1 C.1.2.1 d_JI_bitCount_3 rfl ?_
  refine lv_ldcw C.1.1 C.1.2.1 C.1.2.2.2.1 (C.1.2.2.2.2 (.constant "java/lang/Integer" 265 (1431655765)) g477) d_JI_bitCount_4 ?_
  refine lv_iand C.1.1 C.1.2.1 d_JI_bitCount_7 ?_
  refine lv_isub C.1.1 C.1.2.1 d_JI_bitCount_8 ?_
  refine lv_istore_n (i := 0) (lv' := [(0, .int (p0 - (((p0.toUInt32 >>> ((1 : Int32).toUInt32 &&& Int32.toUInt32 31)).toInt32) &&& (1431655765 : Int32))))]) C.1.1 C.1.2.1 d_JI_bitCount_9 rfl hl (by decide) (by first | rfl | simp [hq_cat, hq_catI, hq_catL]) (fun ls hl => ?_)
  refine lv_iload_n C.1.1 C.1.2.1 d_JI_bitCount_10 rfl (lv_at hl 0 rfl) ?_
  refine lv_ldcw C.1.1 C.1.2.1 C.1.2.2.2.1 (C.1.2.2.2.2 (.constant "java/lang/Integer" 266 (858993459)) g478) d_JI_bitCount_11 ?_
  refine lv_iand C.1.1 C.1.2.1 d_JI_bitCount_14 ?_
  refine lv_iload_n C.1.1 C.1.2.1 d_JI_bitCount_15 rfl (lv_at hl 0 rfl) ?_
  refine lv_iconst (v := 2) C.1.1 C.1.2.1 d_JI_bitCount_16 (by decide) ?_
  refine lv_iushr (v := (((p0 - (((p0.toUInt32 >>> ((1 : Int32).toUInt32 &&& Int32.toUInt32 31)).toInt32) &&& (1431655765 : Int32))).toUInt32 >>> ((2 : Int32).toUInt32 &&& Int32.toUInt32 31)).toInt32)) C.1.1 C.1.2.1 d_JI_bitCount_17 rfl ?_
  refine lv_ldcw C.1.1 C.1.2.1 C.1.2.2.2.1 (C.1.2.2.2.2 (.constant "java/lang/Integer" 266 (858993459)) g478) d_JI_bitCount_18 ?_
  refine lv_iand C.1.1 C.1.2.1 d_JI_bitCount_21 ?_
  refine lv_iadd C.1.1 C.1.2.1 d_JI_bitCount_22 ?_
  refine lv_istore_n (i := 0) (lv' := [(0, .int (((p0 - (((p0.toUInt32 >>> ((1 : Int32).toUInt32 &&& Int32.toUInt32 31)).toInt32) &&& (1431655765 : Int32))) &&& (858993459 : Int32)) + ((((p0 - (((p0.toUInt32 >>> ((1 : Int32).toUInt32 &&& Int32.toUInt32 31)).toInt32) &&& (1431655765 : Int32))).toUInt32 >>> ((2 : Int32).toUInt32 &&& Int32.toUInt32 31)).toInt32) &&& (858993459 : Int32))))]) C.1.1 C.1.2.1 d_JI_bitCount_23 rfl hl (by decide) (by first | rfl | simp [hq_cat, hq_catI, hq_catL]) (fun ls hl => ?_)
  refine lv_iload_n C.1.1 C.1.2.1 d_JI_bitCount_24 rfl (lv_at hl 0 rfl) ?_
  refine lv_iload_n C.1.1 C.1.2.1 d_JI_bitCount_25 rfl (lv_at hl 0 rfl) ?_
  refine lv_iconst (v := 4) C.1.1 C.1.2.1 d_JI_bitCount_26 (by decide) ?_
  refine lv_iushr (v := (((((p0 - (((p0.toUInt32 >>> ((1 : Int32).toUInt32 &&& Int32.toUInt32 31)).toInt32) &&& (1431655765 : Int32))) &&& (858993459 : Int32)) + ((((p0 - (((p0.toUInt32 >>> ((1 : Int32).toUInt32 &&& Int32.toUInt32 31)).toInt32) &&& (1431655765 : Int32))).toUInt32 >>> ((2 : Int32).toUInt32 &&& Int32.toUInt32 31)).toInt32) &&& (858993459 : Int32))).toUInt32 >>> ((4 : Int32).toUInt32 &&& Int32.toUInt32 31)).toInt32)) C.1.1 C.1.2.1 d_JI_bitCount_27 rfl ?_
  refine lv_iadd C.1.1 C.1.2.1 d_JI_bitCount_28 ?_
  refine lv_ldcw C.1.1 C.1.2.1 C.1.2.2.2.1 (C.1.2.2.2.2 (.constant "java/lang/Integer" 267 (252645135)) g479) d_JI_bitCount_29 ?_
  refine lv_iand C.1.1 C.1.2.1 d_JI_bitCount_32 ?_
  refine lv_istore_n (i := 0) (lv' := [(0, .int (((((p0 - (((p0.toUInt32 >>> ((1 : Int32).toUInt32 &&& Int32.toUInt32 31)).toInt32) &&& (1431655765 : Int32))) &&& (858993459 : Int32)) + ((((p0 - (((p0.toUInt32 >>> ((1 : Int32).toUInt32 &&& Int32.toUInt32 31)).toInt32) &&& (1431655765 : Int32))).toUInt32 >>> ((2 : Int32).toUInt32 &&& Int32.toUInt32 31)).toInt32) &&& (858993459 : Int32))) + (((((p0 - (((p0.toUInt32 >>> ((1 : Int32).toUInt32 &&& Int32.toUInt32 31)).toInt32) &&& (1431655765 : Int32))) &&& (858993459 : Int32)) + ((((p0 - (((p0.toUInt32 >>> ((1 : Int32).toUInt32 &&& Int32.toUInt32 31)).toInt32) &&& (1431655765 : Int32))).toUInt32 >>> ((2 : Int32).toUInt32 &&& Int32.toUInt32 31)).toInt32) &&& (858993459 : Int32))).toUInt32 >>> ((4 : Int32).toUInt32 &&& Int32.toUInt32 31)).toInt32)) &&& (252645135 : Int32)))]) C.1.1 C.1.2.1 d_JI_bitCount_33 rfl hl (by decide) (by first | rfl | simp [hq_cat, hq_catI, hq_catL]) (fun ls hl => ?_)
  refine lv_iload_n C.1.1 C.1.2.1 d_JI_bitCount_34 rfl (lv_at hl 0 rfl) ?_
  refine lv_iload_n C.1.1 C.1.2.1 d_JI_bitCount_35 rfl (lv_at hl 0 rfl) ?_
  refine lv_bipush (v := 8) C.1.1 C.1.2.1 d_JI_bitCount_36 (by decide) ?_
  refine lv_iushr (v := (((((((p0 - (((p0.toUInt32 >>> ((1 : Int32).toUInt32 &&& Int32.toUInt32 31)).toInt32) &&& (1431655765 : Int32))) &&& (858993459 : Int32)) + ((((p0 - (((p0.toUInt32 >>> ((1 : Int32).toUInt32 &&& Int32.toUInt32 31)).toInt32) &&& (1431655765 : Int32))).toUInt32 >>> ((2 : Int32).toUInt32 &&& Int32.toUInt32 31)).toInt32) &&& (858993459 : Int32))) + (((((p0 - (((p0.toUInt32 >>> ((1 : Int32).toUInt32 &&& Int32.toUInt32 31)).toInt32) &&& (1431655765 : Int32))) &&& (858993459 : Int32)) + ((((p0 - (((p0.toUInt32 >>> ((1 : Int32).toUInt32 &&& Int32.toUInt32 31)).toInt32) &&& (1431655765 : Int32))).toUInt32 >>> ((2 : Int32).toUInt32 &&& Int32.toUInt32 31)).toInt32) &&& (858993459 : Int32))).toUInt32 >>> ((4 : Int32).toUInt32 &&& Int32.toUInt32 31)).toInt32)) &&& (252645135 : Int32)).toUInt32 >>> ((8 : Int32).toUInt32 &&& Int32.toUInt32 31)).toInt32)) C.1.1 C.1.2.1 d_JI_bitCount_38 rfl ?_
  refine lv_iadd C.1.1 C.1.2.1 d_JI_bitCount_39 ?_
  refine lv_istore_n (i := 0) (lv' := [(0, .int ((((((p0 - (((p0.toUInt32 >>> ((1 : Int32).toUInt32 &&& Int32.toUInt32 31)).toInt32) &&& (1431655765 : Int32))) &&& (858993459 : Int32)) + ((((p0 - (((p0.toUInt32 >>> ((1 : Int32).toUInt32 &&& Int32.toUInt32 31)).toInt32) &&& (1431655765 : Int32))).toUInt32 >>> ((2 : Int32).toUInt32 &&& Int32.toUInt32 31)).toInt32) &&& (858993459 : Int32))) + (((((p0 - (((p0.toUInt32 >>> ((1 : Int32).toUInt32 &&& Int32.toUInt32 31)).toInt32) &&& (1431655765 : Int32))) &&& (858993459 : Int32)) + ((((p0 - (((p0.toUInt32 >>> ((1 : Int32).toUInt32 &&& Int32.toUInt32 31)).toInt32) &&& (1431655765 : Int32))).toUInt32 >>> ((2 : Int32).toUInt32 &&& Int32.toUInt32 31)).toInt32) &&& (858993459 : Int32))).toUInt32 >>> ((4 : Int32).toUInt32 &&& Int32.toUInt32 31)).toInt32)) &&& (252645135 : Int32)) + (((((((p0 - (((p0.toUInt32 >>> ((1 : Int32).toUInt32 &&& Int32.toUInt32 31)).toInt32) &&& (1431655765 : Int32))) &&& (858993459 : Int32)) + ((((p0 - (((p0.toUInt32 >>> ((1 : Int32).toUInt32 &&& Int32.toUInt32 31)).toInt32) &&& (1431655765 : Int32))).toUInt32 >>> ((2 : Int32).toUInt32 &&& Int32.toUInt32 31)).toInt32) &&& (858993459 : Int32))) + (((((p0 - (((p0.toUInt32 >>> ((1 : Int32).toUInt32 &&& Int32.toUInt32 31)).toInt32) &&& (1431655765 : Int32))) &&& (858993459 : Int32)) + ((((p0 - (((p0.toUInt32 >>> ((1 : Int32).toUInt32 &&& Int32.toUInt32 31)).toInt32) &&& (1431655765 : Int32))).toUInt32 >>> ((2 : Int32).toUInt32 &&& Int32.toUInt32 31)).toInt32) &&& (858993459 : Int32))).toUInt32 >>> ((4 : Int32).toUInt32 &&& Int32.toUInt32 31)).toInt32)) &&& (252645135 : Int32)).toUInt32 >>> ((8 : Int32).toUInt32 &&& Int32.toUInt32 31)).toInt32)))]) C.1.1 C.1.2.1 d_JI_bitCount_40 rfl hl (by decide) (by first | rfl | simp [hq_cat, hq_catI, hq_catL]) (fun ls hl => ?_)
  refine lv_iload_n C.1.1 C.1.2.1 d_JI_bitCount_41 rfl (lv_at hl 0 rfl) ?_
  refine lv_iload_n C.1.1 C.1.2.1 d_JI_bitCount_42 rfl (lv_at hl 0 rfl) ?_
  refine lv_bipush (v := 16) C.1.1 C.1.2.1 d_JI_bitCount_43 (by decide) ?_
  refine lv_iushr (v := ((((((((p0 - (((p0.toUInt32 >>> ((1 : Int32).toUInt32 &&& Int32.toUInt32 31)).toInt32) &&& (1431655765 : Int32))) &&& (858993459 : Int32)) + ((((p0 - (((p0.toUInt32 >>> ((1 : Int32).toUInt32 &&& Int32.toUInt32 31)).toInt32) &&& (1431655765 : Int32))).toUInt32 >>> ((2 : Int32).toUInt32 &&& Int32.toUInt32 31)).toInt32) &&& (858993459 : Int32))) + (((((p0 - (((p0.toUInt32 >>> ((1 : Int32).toUInt32 &&& Int32.toUInt32 31)).toInt32) &&& (1431655765 : Int32))) &&& (858993459 : Int32)) + ((((p0 - (((p0.toUInt32 >>> ((1 : Int32).toUInt32 &&& Int32.toUInt32 31)).toInt32) &&& (1431655765 : Int32))).toUInt32 >>> ((2 : Int32).toUInt32 &&& Int32.toUInt32 31)).toInt32) &&& (858993459 : Int32))).toUInt32 >>> ((4 : Int32).toUInt32 &&& Int32.toUInt32 31)).toInt32)) &&& (252645135 : Int32)) + (((((((p0 - (((p0.toUInt32 >>> ((1 : Int32).toUInt32 &&& Int32.toUInt32 31)).toInt32) &&& (1431655765 : Int32))) &&& (858993459 : Int32)) + ((((p0 - (((p0.toUInt32 >>> ((1 : Int32).toUInt32 &&& Int32.toUInt32 31)).toInt32) &&& (1431655765 : Int32))).toUInt32 >>> ((2 : Int32).toUInt32 &&& Int32.toUInt32 31)).toInt32) &&& (858993459 : Int32))) + (((((p0 - (((p0.toUInt32 >>> ((1 : Int32).toUInt32 &&& Int32.toUInt32 31)).toInt32) &&& (1431655765 : Int32))) &&& (858993459 : Int32)) + ((((p0 - (((p0.toUInt32 >>> ((1 : Int32).toUInt32 &&& Int32.toUInt32 31)).toInt32) &&& (1431655765 : Int32))).toUInt32 >>> ((2 : Int32).toUInt32 &&& Int32.toUInt32 31)).toInt32) &&& (858993459 : Int32))).toUInt32 >>> ((4 : Int32).toUInt32 &&& Int32.toUInt32 31)).toInt32)) &&& (252645135 : Int32)).toUInt32 >>> ((8 : Int32).toUInt32 &&& Int32.toUInt32 31)).toInt32)).toUInt32 >>> ((16 : Int32).toUInt32 &&& Int32.toUInt32 31)).toInt32)) C.1.1 C.1.2.1 d_JI_bitCount_45 rfl ?_
  refine lv_iadd C.1.1 C.1.2.1 d_JI_bitCount_46 ?_
  refine lv_istore_n (i := 0) (lv' := [(0, .int (((((((p0 - (((p0.toUInt32 >>> ((1 : Int32).toUInt32 &&& Int32.toUInt32 31)).toInt32) &&& (1431655765 : Int32))) &&& (858993459 : Int32)) + ((((p0 - (((p0.toUInt32 >>> ((1 : Int32).toUInt32 &&& Int32.toUInt32 31)).toInt32) &&& (1431655765 : Int32))).toUInt32 >>> ((2 : Int32).toUInt32 &&& Int32.toUInt32 31)).toInt32) &&& (858993459 : Int32))) + (((((p0 - (((p0.toUInt32 >>> ((1 : Int32).toUInt32 &&& Int32.toUInt32 31)).toInt32) &&& (1431655765 : Int32))) &&& (858993459 : Int32)) + ((((p0 - (((p0.toUInt32 >>> ((1 : Int32).toUInt32 &&& Int32.toUInt32 31)).toInt32) &&& (1431655765 : Int32))).toUInt32 >>> ((2 : Int32).toUInt32 &&& Int32.toUInt32 31)).toInt32) &&& (858993459 : Int32))).toUInt32 >>> ((4 : Int32).toUInt32 &&& Int32.toUInt32 31)).toInt32)) &&& (252645135 : Int32)) + (((((((p0 - (((p0.toUInt32 >>> ((1 : Int32).toUInt32 &&& Int32.toUInt32 31)).toInt32) &&& (1431655765 : Int32))) &&& (858993459 : Int32)) + ((((p0 - (((p0.toUInt32 >>> ((1 : Int32).toUInt32 &&& Int32.toUInt32 31)).toInt32) &&& (1431655765 : Int32))).toUInt32 >>> ((2 : Int32).toUInt32 &&& Int32.toUInt32 31)).toInt32) &&& (858993459 : Int32))) + (((((p0 - (((p0.toUInt32 >>> ((1 : Int32).toUInt32 &&& Int32.toUInt32 31)).toInt32) &&& (1431655765 : Int32))) &&& (858993459 : Int32)) + ((((p0 - (((p0.toUInt32 >>> ((1 : Int32).toUInt32 &&& Int32.toUInt32 31)).toInt32) &&& (1431655765 : Int32))).toUInt32 >>> ((2 : Int32).toUInt32 &&& Int32.toUInt32 31)).toInt32) &&& (858993459 : Int32))).toUInt32 >>> ((4 : Int32).toUInt32 &&& Int32.toUInt32 31)).toInt32)) &&& (252645135 : Int32)).toUInt32 >>> ((8 : Int32).toUInt32 &&& Int32.toUInt32 31)).toInt32)) + ((((((((p0 - (((p0.toUInt32 >>> ((1 : Int32).toUInt32 &&& Int32.toUInt32 31)).toInt32) &&& (1431655765 : Int32))) &&& (858993459 : Int32)) + ((((p0 - (((p0.toUInt32 >>> ((1 : Int32).toUInt32 &&& Int32.toUInt32 31)).toInt32) &&& (1431655765 : Int32))).toUInt32 >>> ((2 : Int32).toUInt32 &&& Int32.toUInt32 31)).toInt32) &&& (858993459 : Int32))) + (((((p0 - (((p0.toUInt32 >>> ((1 : Int32).toUInt32 &&& Int32.toUInt32 31)).toInt32) &&& (1431655765 : Int32))) &&& (858993459 : Int32)) + ((((p0 - (((p0.toUInt32 >>> ((1 : Int32).toUInt32 &&& Int32.toUInt32 31)).toInt32) &&& (1431655765 : Int32))).toUInt32 >>> ((2 : Int32).toUInt32 &&& Int32.toUInt32 31)).toInt32) &&& (858993459 : Int32))).toUInt32 >>> ((4 : Int32).toUInt32 &&& Int32.toUInt32 31)).toInt32)) &&& (252645135 : Int32)) + (((((((p0 - (((p0.toUInt32 >>> ((1 : Int32).toUInt32 &&& Int32.toUInt32 31)).toInt32) &&& (1431655765 : Int32))) &&& (858993459 : Int32)) + ((((p0 - (((p0.toUInt32 >>> ((1 : Int32).toUInt32 &&& Int32.toUInt32 31)).toInt32) &&& (1431655765 : Int32))).toUInt32 >>> ((2 : Int32).toUInt32 &&& Int32.toUInt32 31)).toInt32) &&& (858993459 : Int32))) + (((((p0 - (((p0.toUInt32 >>> ((1 : Int32).toUInt32 &&& Int32.toUInt32 31)).toInt32) &&& (1431655765 : Int32))) &&& (858993459 : Int32)) + ((((p0 - (((p0.toUInt32 >>> ((1 : Int32).toUInt32 &&& Int32.toUInt32 31)).toInt32) &&& (1431655765 : Int32))).toUInt32 >>> ((2 : Int32).toUInt32 &&& Int32.toUInt32 31)).toInt32) &&& (858993459 : Int32))).toUInt32 >>> ((4 : Int32).toUInt32 &&& Int32.toUInt32 31)).toInt32)) &&& (252645135 : Int32)).toUInt32 >>> ((8 : Int32).toUInt32 &&& Int32.toUInt32 31)).toInt32)).toUInt32 >>> ((16 : Int32).toUInt32 &&& Int32.toUInt32 31)).toInt32)))]) C.1.1 C.1.2.1 d_JI_bitCount_47 rfl hl (by decide) (by first | rfl | simp [hq_cat, hq_catI, hq_catL]) (fun ls hl => ?_)
  refine lv_iload_n C.1.1 C.1.2.1 d_JI_bitCount_48 rfl (lv_at hl 0 rfl) ?_
  refine lv_bipush (v := 63) C.1.1 C.1.2.1 d_JI_bitCount_49 (by decide) ?_
  refine lv_iand C.1.1 C.1.2.1 d_JI_bitCount_51 ?_
  cases hf
  exact hq_iret C I (by decide) (by decide) d_JI_bitCount_52
set_option maxRecDepth 100000 in
set_option maxHeartbeats 4000000 in
theorem k_EL_sharedClasses_L6 {p : Program} {l : Launch} {e : Env} {s : State} {m : MethodId} {args : Array Value} {below : List Frame} {meth : Method} {c : Code} {G : hp_G} {B : Nat} (C : hq_C p s m args meth c b_EL_sharedClasses 4 ((Option.some Jvm.ClassFile.FieldType.int)) "LayeredLauncher$EntryList" "sharedClasses" gt G vwCl aTs) : ∀ (n : Nat) (t0 : Nat) (y1 : Int32) (y2 : Int32) (y3 : Int32) (h : hp_H) (out : Int32 × hp_H), f_EL_sharedClasses_L6 n t0 y1 y2 y3 h = some out → ∀ (H : Heap) (locs : List Loc), hp_I G vwCl B s.heap h H locs → ∀ ls : Array Slot, lv_has ls 4 [(0, va_rf (some t0)), (1, .int y1), (2, .int y2), (3, .int y3)] → W p l e ({ frames := 1, cells := 0, slots := 0, locals := 20 }) s m args below meth c H locs 0 0 (MQ below (hq_Q G vwCl B (some (.int out.1)) out.2) args s 0 0 (fun q => B ≤ q)) (F0 m 6 ls []) := by
  intro n
  induction n with
  | zero => intro t0 y1 y2 y3 h out hf; simp [f_EL_sharedClasses_L6] at hf
  | succ n ih =>
    intro t0 y1 y2 y3 h out hf H locs I ls hl
    simp only [f_EL_sharedClasses_L6] at hf
    refine lv_iload_n C.1.1 C.1.2.1 d_EL_sharedClasses_6 rfl (lv_at hl 3 rfl) ?_
    refine hq_aload_n C.1.1 C.1.2.1 d_EL_sharedClasses_7 rfl (lv_at hl 0 rfl) ?_
    replace hf := Option.bind_eq_some_iff.mp hf
    obtain ⟨x1, e2, hf⟩ := hf
    refine hq_getI C I F_EL_30 e2 d_EL_sharedClasses_8 ?_
    refine lv_icmp_ge (tgt := 46) C.1.1 C.1.2.1 d_EL_sharedClasses_11 (by decide) (fun c3 => ?_) (fun c3 => ?_)
    · rw [if_pos c3] at hf
      refine lv_iload_n C.1.1 C.1.2.1 d_EL_sharedClasses_46 rfl (lv_at hl 2 rfl) ?_
      replace hf := Option.bind_eq_some_iff.mp hf
      obtain ⟨q4, e5, hf⟩ := hf
      refine hq_callS gt_good C I hl.1 (k_JI_bitCount l G B _ y2 q4 e5) M_EL_55 ⟨rfl, rfl⟩ ⟨Nat.le_of_ble_eq_true rfl, Nat.le_of_ble_eq_true rfl⟩ rfl (Nat.le_of_ble_eq_true rfl) d_EL_sharedClasses_47 ⟨Nat.le_of_ble_eq_true rfl, Nat.le_of_ble_eq_true rfl⟩ (fun H locs I => ?_)
      refine W.widen (k := 0) (n := 0) (by decide) (by decide) ?_
      cases hf
      exact hq_iret C I (by decide) (by decide) d_EL_sharedClasses_50
    · rw [if_neg c3] at hf
      refine lv_iload_n C.1.1 C.1.2.1 d_EL_sharedClasses_14 rfl (lv_at hl 2 rfl) ?_
      refine lv_iload_n C.1.1 C.1.2.1 d_EL_sharedClasses_15 rfl (lv_at hl 1 rfl) ?_
      refine hq_aload_n C.1.1 C.1.2.1 d_EL_sharedClasses_16 rfl (lv_at hl 0 rfl) ?_
      replace hf := Option.bind_eq_some_iff.mp hf
      obtain ⟨x6, e7, hf⟩ := hf
      refine hq_getR C I F_EL_11 e7 d_EL_sharedClasses_17 ?_
      refine lv_iload_n C.1.1 C.1.2.1 d_EL_sharedClasses_20 rfl (lv_at hl 3 rfl) ?_
      replace hf := Option.bind_eq_some_iff.mp hf
      obtain ⟨x8, e9, hf⟩ := hf
      refine hq_aald C I (t := 4) rfl e9 d_EL_sharedClasses_21 ?_
      replace hf := Option.bind_eq_some_iff.mp hf
      obtain ⟨x10, e11, hf⟩ := hf
      refine hq_getI C I F_EL_52 e11 d_EL_sharedClasses_22 ?_
      refine lv_iand C.1.1 C.1.2.1 d_EL_sharedClasses_25 ?_
      refine lv_ior C.1.1 C.1.2.1 d_EL_sharedClasses_26 ?_
      refine lv_istore_n (i := 2) (lv' := [(2, .int (y2 ||| (y1 &&& x10))), (0, va_rf (some t0)), (1, .int y1), (3, .int y3)]) C.1.1 C.1.2.1 d_EL_sharedClasses_27 rfl hl (by decide) (by first | rfl | simp [hq_cat, hq_catI, hq_catL]) (fun ls hl => ?_)
      refine lv_iload_n C.1.1 C.1.2.1 d_EL_sharedClasses_28 rfl (lv_at hl 2 rfl) ?_
      refine hq_aload_n C.1.1 C.1.2.1 d_EL_sharedClasses_29 rfl (lv_at hl 1 rfl) ?_
      replace hf := Option.bind_eq_some_iff.mp hf
      obtain ⟨x12, e13, hf⟩ := hf
      refine hq_getR C I F_EL_11 e13 d_EL_sharedClasses_30 ?_
      refine lv_iload_n C.1.1 C.1.2.1 d_EL_sharedClasses_33 rfl (lv_at hl 3 rfl) ?_
      replace hf := Option.bind_eq_some_iff.mp hf
      obtain ⟨x14, e15, hf⟩ := hf
      refine hq_aald C I (t := 4) rfl e15 d_EL_sharedClasses_34 ?_
      replace hf := Option.bind_eq_some_iff.mp hf
      obtain ⟨x16, e17, hf⟩ := hf
      refine hq_getI C I F_EL_52 e17 d_EL_sharedClasses_35 ?_
      refine lv_ior C.1.1 C.1.2.1 d_EL_sharedClasses_38 ?_
      refine lv_istore_n (i := 1) (lv' := [(1, .int (y1 ||| x16)), (2, .int (y2 ||| (y1 &&& x10))), (0, va_rf (some t0)), (3, .int y3)]) C.1.1 C.1.2.1 d_EL_sharedClasses_39 rfl hl (by decide) (by first | rfl | simp [hq_cat, hq_catI, hq_catL]) (fun ls hl => ?_)
      refine lv_iinc (v := (y3 + 1)) (lv' := [(3, .int (y3 + 1)), (1, .int (y1 ||| x16)), (2, .int (y2 ||| (y1 &&& x10))), (0, va_rf (some t0))]) C.1.1 C.1.2.1 d_EL_sharedClasses_40 hl (k := 3) rfl rfl (by decide) (by first | rfl | simp [hq_cat, hq_catI, hq_catL]) (fun ls hl => ?_)
      refine lv_goto (tgt := 6) C.1.1 C.1.2.1 d_EL_sharedClasses_43 (by decide) ?_
      refine W.widen (k := 0) (n := 0) (by decide) (by decide) ?_
      exact ih t0 (y1 ||| x16) (y2 ||| (y1 &&& x10)) (y3 + 1) h _ hf _ _ I ls (lv_sub hl [3, 1, 2, 0] rfl)
set_option maxRecDepth 100000 in
set_option maxHeartbeats 4000000 in
theorem k_EL_sharedClasses (l : Launch) (G : hp_G) (B : Nat) (h : hp_H) (t0 : Nat) (out : Int32 × hp_H) (hf : f_EL_sharedClasses h t0 = some out) : Met l y_EL_sharedClasses (.code y_EL_sharedClasses b_EL_sharedClasses 4 ((Option.some Jvm.ClassFile.FieldType.int)) :: gt) ({ frames := 1, cells := 0, slots := 0, locals := 20 }) (hq_Pc G vwCl aTs B h [.ref t0]) (hq_Q G vwCl B (some (.int out.1)) out.2) 0 0 (fun q => B ≤ q) := by
  refine hq_enter (nL := 4) (by decide +kernel) (Nat.le_of_ble_eq_true rfl) ?_
  intro p e s m args below meth c C I ls hl
  have hl : lv_has ls 4 [(0, va_rf (some t0))] := hl
  unfold f_EL_sharedClasses at hf
  refine lv_iconst (v := 0) C.1.1 C.1.2.1 d_EL_sharedClasses_0 (by decide) ?_
  refine lv_istore_n (i := 1) (lv' := [(1, .int (0 : Int32)), (0, va_rf (some t0))]) C.1.1 C.1.2.1 d_EL_sharedClasses_1 rfl hl (by decide) (by first | rfl | simp [hq_cat, hq_catI, hq_catL]) (fun ls hl => ?_)
  refine lv_iconst (v := 0) C.1.1 C.1.2.1 d_EL_sharedClasses_2 (by decide) ?_
  refine lv_istore_n (i := 2) (lv' := [(2, .int (0 : Int32)), (1, .int (0 : Int32)), (0, va_rf (some t0))]) C.1.1 C.1.2.1 d_EL_sharedClasses_3 rfl hl (by decide) (by first | rfl | simp [hq_cat, hq_catI, hq_catL]) (fun ls hl => ?_)
  refine lv_iconst (v := 0) C.1.1 C.1.2.1 d_EL_sharedClasses_4 (by decide) ?_
  refine lv_istore_n (i := 3) (lv' := [(3, .int (0 : Int32)), (2, .int (0 : Int32)), (1, .int (0 : Int32)), (0, va_rf (some t0))]) C.1.1 C.1.2.1 d_EL_sharedClasses_5 rfl hl (by decide) (by first | rfl | simp [hq_cat, hq_catI, hq_catL]) (fun ls hl => ?_)
  refine W.widen (k := 0) (n := 0) (by decide) (by decide) ?_
  exact k_EL_sharedClasses_L6 C FU t0 (0 : Int32) (0 : Int32) (0 : Int32) h _ hf _ _ I ls (lv_sub hl [3, 2, 1, 0] rfl)
set_option maxRecDepth 100000 in
set_option maxHeartbeats 4000000 in
theorem k_LL_count (l : Launch) (G : hp_G) (B : Nat) (h : hp_H) (t0 : Nat) (p1 : Int32) (out : Int32 × hp_H) (hf : f_LL_count h t0 p1 = some out) : Met l y_LL_count (.code y_LL_count b_LL_count 2 ((Option.some Jvm.ClassFile.FieldType.int)) :: gt) ({ frames := 2, cells := 0, slots := 0, locals := 43 }) (hq_Pc G vwCl aTs B h [.ref t0, .int p1]) (hq_Q G vwCl B (some (.int out.1)) out.2) 0 0 (fun q => B ≤ q) := by
  refine hq_enter (nL := 2) (by decide +kernel) (Nat.le_of_ble_eq_true rfl) ?_
  intro p e s m args below meth c C I ls hl
  have hl : lv_has ls 2 [(0, va_rf (some t0)), (1, .int p1)] := hl
  unfold f_LL_count at hf
  refine lv_iload_n C.1.1 C.1.2.1 d_LL_count_0 rfl (lv_at hl 1 rfl) ?_
  by_cases c1 : p1 = 0
  · rw [if_pos c1] at hf
    refine lv_tableIn (tgt := 40) C.1.1 C.1.2.1 d_LL_count_1 (by rw [c1]; decide) (by rw [c1]; decide) (by rw [c1]; rfl) (by decide) ?_
    refine hq_aload_n C.1.1 C.1.2.1 d_LL_count_40 rfl (lv_at hl 0 rfl) ?_
    replace hf := Option.bind_eq_some_iff.mp hf
    obtain ⟨x2, e3, hf⟩ := hf
    refine hq_getI C I F_LL_22 e3 d_LL_count_41 ?_
    cases hf
    exact hq_iret C I (by decide) (by decide) d_LL_count_44
  rw [if_neg c1] at hf
  by_cases c4 : p1 = 1
  · rw [if_pos c4] at hf
    refine lv_tableIn (tgt := 45) C.1.1 C.1.2.1 d_LL_count_1 (by rw [c4]; decide) (by rw [c4]; decide) (by rw [c4]; rfl) (by decide) ?_
    refine hq_aload_n C.1.1 C.1.2.1 d_LL_count_45 rfl (lv_at hl 0 rfl) ?_
    replace hf := Option.bind_eq_some_iff.mp hf
    obtain ⟨b7, e8, hf⟩ := hf
    obtain ⟨e8r, _, e8c⟩ := hp_o_inv e8
    cases e8r
    replace hf := Option.bind_eq_some_iff.mp hf
    obtain ⟨q5, e6, hf⟩ := hf
    refine hq_callW gt_good C I hl.1 (k_LL_retiredArtifacts l G B _ t0 q5 e6) M_LL_163 e8c rfl ⟨rfl, rfl⟩ ⟨Nat.le_of_ble_eq_true rfl, Nat.le_of_ble_eq_true rfl⟩ rfl (Nat.le_of_ble_eq_true rfl) d_LL_count_46 ⟨Nat.le_of_ble_eq_true rfl, Nat.le_of_ble_eq_true rfl⟩ (fun H locs I => ?_)
    refine W.widen (k := 0) (n := 0) (by decide) (by decide) ?_
    cases hf
    exact hq_iret C I (by decide) (by decide) d_LL_count_49
  rw [if_neg c4] at hf
  by_cases c9 : p1 = 2
  · rw [if_pos c9] at hf
    refine lv_tableIn (tgt := 50) C.1.1 C.1.2.1 d_LL_count_1 (by rw [c9]; decide) (by rw [c9]; decide) (by rw [c9]; rfl) (by decide) ?_
    refine hq_aload_n C.1.1 C.1.2.1 d_LL_count_50 rfl (lv_at hl 0 rfl) ?_
    replace hf := Option.bind_eq_some_iff.mp hf
    obtain ⟨x10, e11, hf⟩ := hf
    refine hq_getR C I F_LL_10 e11 d_LL_count_51 ?_
    replace hf := Option.bind_eq_some_iff.mp hf
    obtain ⟨x12, e13, hf⟩ := hf
    refine hq_getI C I F_LL_39 e13 d_LL_count_54 ?_
    cases hf
    exact hq_iret C I (by decide) (by decide) d_LL_count_57
  rw [if_neg c9] at hf
  by_cases c14 : p1 = 3
  · rw [if_pos c14] at hf
    refine lv_tableIn (tgt := 58) C.1.1 C.1.2.1 d_LL_count_1 (by rw [c14]; decide) (by rw [c14]; decide) (by rw [c14]; rfl) (by decide) ?_
    refine hq_aload_n C.1.1 C.1.2.1 d_LL_count_58 rfl (lv_at hl 0 rfl) ?_
    replace hf := Option.bind_eq_some_iff.mp hf
    obtain ⟨x15, e16, hf⟩ := hf
    refine hq_getR C I F_LL_29 e16 d_LL_count_59 ?_
    replace hf := Option.bind_eq_some_iff.mp hf
    obtain ⟨x17, e18, hf⟩ := hf
    refine hq_getI C I F_LL_138 e18 d_LL_count_62 ?_
    cases hf
    exact hq_iret C I (by decide) (by decide) d_LL_count_65
  rw [if_neg c14] at hf
  by_cases c19 : p1 = 4
  · rw [if_pos c19] at hf
    refine lv_tableIn (tgt := 66) C.1.1 C.1.2.1 d_LL_count_1 (by rw [c19]; decide) (by rw [c19]; decide) (by rw [c19]; rfl) (by decide) ?_
    refine hq_aload_n C.1.1 C.1.2.1 d_LL_count_66 rfl (lv_at hl 0 rfl) ?_
    replace hf := Option.bind_eq_some_iff.mp hf
    obtain ⟨x20, e21, hf⟩ := hf
    refine hq_getR C I F_LL_29 e21 d_LL_count_67 ?_
    replace hf := Option.bind_eq_some_iff.mp hf
    obtain ⟨b24, e25, hf⟩ := hf
    obtain ⟨e25r, _, e25c⟩ := hp_o_inv e25
    replace hf := Option.bind_eq_some_iff.mp hf
    obtain ⟨q22, e23, hf⟩ := hf
    refine hq_callW gt_good C I hl.1 (k_EL_greatestDepth l G B _ b24 q22 e23) M_LL_167 e25c e25r ⟨rfl, rfl⟩ ⟨Nat.le_of_ble_eq_true rfl, Nat.le_of_ble_eq_true rfl⟩ rfl (Nat.le_of_ble_eq_true rfl) d_LL_count_70 ⟨Nat.le_of_ble_eq_true rfl, Nat.le_of_ble_eq_true rfl⟩ (fun H locs I => ?_)
    refine W.widen (k := 0) (n := 0) (by decide) (by decide) ?_
    cases hf
    exact hq_iret C I (by decide) (by decide) d_LL_count_73
  rw [if_neg c19] at hf
  by_cases c26 : p1 = 5
  · rw [if_pos c26] at hf
    refine lv_tableIn (tgt := 74) C.1.1 C.1.2.1 d_LL_count_1 (by rw [c26]; decide) (by rw [c26]; decide) (by rw [c26]; rfl) (by decide) ?_
    refine hq_aload_n C.1.1 C.1.2.1 d_LL_count_74 rfl (lv_at hl 0 rfl) ?_
    replace hf := Option.bind_eq_some_iff.mp hf
    obtain ⟨x27, e28, hf⟩ := hf
    refine hq_getR C I F_LL_29 e28 d_LL_count_75 ?_
    replace hf := Option.bind_eq_some_iff.mp hf
    obtain ⟨b31, e32, hf⟩ := hf
    obtain ⟨e32r, _, e32c⟩ := hp_o_inv e32
    replace hf := Option.bind_eq_some_iff.mp hf
    obtain ⟨q29, e30, hf⟩ := hf
    refine hq_callW gt_good C I hl.1 (k_EL_sharedClasses l G B _ b31 q29 e30) M_LL_170 e32c e32r ⟨rfl, rfl⟩ ⟨Nat.le_of_ble_eq_true rfl, Nat.le_of_ble_eq_true rfl⟩ rfl (Nat.le_of_ble_eq_true rfl) d_LL_count_78 ⟨Nat.le_of_ble_eq_true rfl, Nat.le_of_ble_eq_true rfl⟩ (fun H locs I => ?_)
    refine W.widen (k := 0) (n := 0) (by decide) (by decide) ?_
    cases hf
    exact hq_iret C I (by decide) (by decide) d_LL_count_81
  rw [if_neg c26] at hf
  refine lv_tableOut (tgt := 82) C.1.1 C.1.2.1 d_LL_count_1 (hq_tab 0 5 rfl rfl (by decide) (fun k h1 h2 => by rcases (show k = 0 ∨ k = 1 ∨ k = 2 ∨ k = 3 ∨ k = 4 ∨ k = 5 by omega) with rfl | rfl | rfl | rfl | rfl | rfl <;> assumption)) (by decide) ?_
  refine lv_iconst (v := -1) C.1.1 C.1.2.1 d_LL_count_82 (by decide) ?_
  cases hf
  exact hq_iret C I (by decide) (by decide) d_LL_count_83
