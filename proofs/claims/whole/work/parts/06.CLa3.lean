set_option maxRecDepth 100000 in
set_option maxHeartbeats 4000000 in
theorem k_EL_begin (l : Launch) (G : hp_G) (B : Nat) (h : hp_H) (t0 : Nat) (p1 : Option Nat) (out : hp_H) (hf : f_EL_begin h t0 p1 = some out) : Met l y_EL_begin (.code y_EL_begin b_EL_begin 2 ((Option.none : Option Jvm.ClassFile.FieldType)) :: gt) ({ frames := 0, cells := 0, slots := 0, locals := 0 }) (hq_Pc G vwCl aTs B h [.ref t0, va_rf p1]) (hq_Q G vwCl B none out) 0 0 (fun q => B ≤ q) := by
  refine hq_enter (nL := 2) (by decide +kernel) (by simp [lg_sl, hq_cat, hq_catI, hq_catL, hq_catR]) ?_
  intro p e s m args below meth c C I ls hl
  have hl : lv_has ls 2 [(0, va_rf (some t0)), (1, va_rf p1)] := by simp [lv_args, hq_cat, hq_catI, hq_catL, hq_catR] at hl; exact hl
  unfold f_EL_begin at hf
  refine hq_aload_n C.1.1 C.1.2.1 d_EL_begin_0 rfl (lv_at hl 0 rfl) ?_
  replace hf := Option.bind_eq_some_iff.mp hf
  obtain ⟨x1, e2, hf⟩ := hf
  refine hq_getR C I F_EL_11 e2 d_EL_begin_1 ?_
  refine lv_iconst (v := 0) C.1.1 C.1.2.1 d_EL_begin_4 (by decide) ?_
  refine hq_aload_n C.1.1 C.1.2.1 d_EL_begin_5 rfl (lv_at hl 1 rfl) ?_
  replace hf := Option.bind_eq_some_iff.mp hf
  obtain ⟨h3, e4, hf⟩ := hf
  refine hq_aast C I (t := 4) (ci := 3) rfl rfl e4 d_EL_begin_6 (fun H locs I => ?_)
  refine hq_aload_n C.1.1 C.1.2.1 d_EL_begin_7 rfl (lv_at hl 0 rfl) ?_
  replace hf := Option.bind_eq_some_iff.mp hf
  obtain ⟨x5, e6, hf⟩ := hf
  refine hq_getR C I F_EL_17 e6 d_EL_begin_8 ?_
  refine lv_iconst (v := 0) C.1.1 C.1.2.1 d_EL_begin_11 (by decide) ?_
  refine lv_iconst (v := 0) C.1.1 C.1.2.1 d_EL_begin_12 (by decide) ?_
  replace hf := Option.bind_eq_some_iff.mp hf
  obtain ⟨h7, e8, hf⟩ := hf
  refine hq_iast C I (t := 0) rfl e8 d_EL_begin_13 (fun H locs I => ?_)
  refine hq_aload_n C.1.1 C.1.2.1 d_EL_begin_14 rfl (lv_at hl 0 rfl) ?_
  replace hf := Option.bind_eq_some_iff.mp hf
  obtain ⟨x9, e10, hf⟩ := hf
  refine hq_getR C I F_EL_21 e10 d_EL_begin_15 ?_
  refine lv_iconst (v := 0) C.1.1 C.1.2.1 d_EL_begin_18 (by decide) ?_
  refine lv_iconst (v := -1) C.1.1 C.1.2.1 d_EL_begin_19 (by decide) ?_
  replace hf := Option.bind_eq_some_iff.mp hf
  obtain ⟨h11, e12, hf⟩ := hf
  refine hq_iast C I (t := 0) rfl e12 d_EL_begin_20 (fun H locs I => ?_)
  refine hq_aload_n C.1.1 C.1.2.1 d_EL_begin_21 rfl (lv_at hl 0 rfl) ?_
  replace hf := Option.bind_eq_some_iff.mp hf
  obtain ⟨x13, e14, hf⟩ := hf
  refine hq_getR C I F_EL_26 e14 d_EL_begin_22 ?_
  refine lv_iconst (v := 0) C.1.1 C.1.2.1 d_EL_begin_25 (by decide) ?_
  refine lv_null C.1.1 C.1.2.1 d_EL_begin_26 ?_
  replace hf := Option.bind_eq_some_iff.mp hf
  obtain ⟨h15, e16, hf⟩ := hf
  refine hq_aast C I (t := 5) (ci := 4) rfl rfl e16 d_EL_begin_27 (fun H locs I => ?_)
  refine hq_aload_n C.1.1 C.1.2.1 d_EL_begin_28 rfl (lv_at hl 0 rfl) ?_
  refine lv_iconst (v := 1) C.1.1 C.1.2.1 d_EL_begin_29 (by decide) ?_
  replace hf := Option.bind_eq_some_iff.mp hf
  obtain ⟨h17, e18, hf⟩ := hf
  refine hq_put C I F_EL_30 e18 rfl rfl d_EL_begin_30 (fun H locs I => ?_)
  cases hf
  exact hq_vret C I (by decide) (by decide) d_EL_begin_33
set_option maxRecDepth 100000 in
set_option maxHeartbeats 4000000 in
theorem k_DP_excludes_L2 {p : Program} {l : Launch} {e : Env} {s : State} {m : MethodId} {args : Array Value} {below : List Frame} {meth : Method} {c : Code} {G : hp_G} {B : Nat} (C : hq_C p s m args meth c b_DP_excludes 4 ((Option.some Jvm.ClassFile.FieldType.boolean)) "LayeredLauncher$Dependency" "excludes" gt G vwCl aTs) : ∀ (n : Nat) (t0 : Nat) (y1 : Int64) (y3 : Int32) (h : hp_H) (out : Int32 × hp_H), f_DP_excludes_L2 n t0 y1 y3 h = some out → ∀ (H : Heap) (locs : List Loc), hp_I G vwCl B s.heap h H locs → ∀ ls : Array Slot, lv_has ls 4 [(0, va_rf (some t0)), (1, .long y1), (3, .int y3)] → W p l e ({ frames := 0, cells := 0, slots := 0, locals := 0 }) s m args below meth c H locs 0 0 (MQ below (hq_Q G vwCl B (some (.int out.1)) out.2) args s 0 0 (fun q => B ≤ q)) (F0 m 2 ls []) := by
  intro n
  induction n with
  | zero => intro t0 y1 y3 h out hf; simp [f_DP_excludes_L2] at hf
  | succ n ih =>
    intro t0 y1 y3 h out hf H locs I ls hl
    simp only [f_DP_excludes_L2] at hf
    refine lv_iload_n C.1.1 C.1.2.1 d_DP_excludes_2 rfl (lv_at hl 2 rfl) ?_
    refine hq_aload_n C.1.1 C.1.2.1 d_DP_excludes_3 rfl (lv_at hl 0 rfl) ?_
    replace hf := Option.bind_eq_some_iff.mp hf
    obtain ⟨x1, e2, hf⟩ := hf
    refine hq_getI C I F_DP_15 e2 d_DP_excludes_4 ?_
    refine lv_icmp_ge (tgt := 29) C.1.1 C.1.2.1 d_DP_excludes_7 (by decide) (fun c3 => ?_) (fun c3 => ?_)
    · rw [if_pos c3] at hf
      refine lv_iconst (v := 0) C.1.1 C.1.2.1 d_DP_excludes_29 (by decide) ?_
      cases hf
      exact hq_zret C I (hp_z_nar (x := 0) (Or.inl rfl)).1 (by decide) (by decide) d_DP_excludes_30
    · rw [if_neg c3] at hf
      refine hq_aload_n C.1.1 C.1.2.1 d_DP_excludes_10 rfl (lv_at hl 0 rfl) ?_
      replace hf := Option.bind_eq_some_iff.mp hf
      obtain ⟨x4, e5, hf⟩ := hf
      refine hq_getR C I F_DP_9 e5 d_DP_excludes_11 ?_
      refine lv_iload_n C.1.1 C.1.2.1 d_DP_excludes_14 rfl (lv_at hl 2 rfl) ?_
      replace hf := Option.bind_eq_some_iff.mp hf
      obtain ⟨x6, e7, hf⟩ := hf
      refine hq_lald C I (t := 1) rfl e7 d_DP_excludes_15 ?_
      refine lv_lload_n C.1.1 C.1.2.1 d_DP_excludes_16 rfl (lv_at hl 1 rfl) ?_
      refine W.lcmp C.1.1 C.1.2.1 d_DP_excludes_17 ?_
      refine lv_if_ne (tgt := 23) C.1.1 C.1.2.1 d_DP_excludes_18 (by decide) (fun c8 => ?_) (fun c8 => ?_)
      · rw [if_neg c8] at hf
        refine lv_iinc (v := (y3 + 1)) (lv' := [(3, .int (y3 + 1)), (0, va_rf (some t0)), (1, .long y1)]) C.1.1 C.1.2.1 d_DP_excludes_23 hl (k := 2) rfl rfl (by decide) (by first | rfl | simp [hq_cat, hq_catI, hq_catL]) (fun ls hl => ?_)
        refine lv_goto (tgt := 2) C.1.1 C.1.2.1 d_DP_excludes_26 (by decide) ?_
        refine W.widen (k := 0) (n := 0) (by decide) (by decide) ?_
        exact ih t0 y1 (y3 + 1) h _ hf _ _ I ls (lv_sub hl [1, 2, 0] rfl)
      · rw [if_pos c8] at hf
        refine lv_iconst (v := 1) C.1.1 C.1.2.1 d_DP_excludes_21 (by decide) ?_
        cases hf
        exact hq_zret C I (hp_z_nar (x := 1) (Or.inr rfl)).1 (by decide) (by decide) d_DP_excludes_22
set_option maxRecDepth 100000 in
set_option maxHeartbeats 4000000 in
theorem k_DP_excludes (l : Launch) (G : hp_G) (B : Nat) (h : hp_H) (t0 : Nat) (p1 : Int64) (out : Int32 × hp_H) (hf : f_DP_excludes h t0 p1 = some out) : Met l y_DP_excludes (.code y_DP_excludes b_DP_excludes 4 ((Option.some Jvm.ClassFile.FieldType.boolean)) :: gt) ({ frames := 0, cells := 0, slots := 0, locals := 0 }) (hq_Pc G vwCl aTs B h [.ref t0, .long p1]) (hq_Q G vwCl B (some (.int out.1)) out.2) 0 0 (fun q => B ≤ q) := by
  refine hq_enter (nL := 4) (by decide +kernel) (Nat.le_of_ble_eq_true rfl) ?_
  intro p e s m args below meth c C I ls hl
  have hl : lv_has ls 4 [(0, va_rf (some t0)), (1, .long p1)] := hl
  unfold f_DP_excludes at hf
  refine lv_iconst (v := 0) C.1.1 C.1.2.1 d_DP_excludes_0 (by decide) ?_
  refine lv_istore_n (i := 3) (lv' := [(3, .int (0 : Int32)), (0, va_rf (some t0)), (1, .long p1)]) C.1.1 C.1.2.1 d_DP_excludes_1 rfl hl (by decide) (by first | rfl | simp [hq_cat, hq_catI, hq_catL]) (fun ls hl => ?_)
  refine W.widen (k := 0) (n := 0) (by decide) (by decide) ?_
  exact k_DP_excludes_L2 C FU t0 p1 (0 : Int32) h _ hf _ _ I ls (lv_sub hl [1, 2, 0] rfl)
set_option maxRecDepth 100000 in
set_option maxHeartbeats 4000000 in
theorem k_EL_bars_L6 {p : Program} {l : Launch} {e : Env} {s : State} {m : MethodId} {args : Array Value} {below : List Frame} {meth : Method} {c : Code} {G : hp_G} {B : Nat} (C : hq_C p s m args meth c b_EL_bars 6 ((Option.some Jvm.ClassFile.FieldType.boolean)) "LayeredLauncher$EntryList" "bars" gt G vwCl aTs) : ∀ (n : Nat) (t0 : Nat) (y2 : Int64) (y4 : Int32) (y5 : Int32) (h : hp_H) (out : Int32 × hp_H), f_EL_bars_L6 n t0 y2 y4 y5 h = some out → ∀ (H : Heap) (locs : List Loc), hp_I G vwCl B s.heap h H locs → ∀ ls : Array Slot, lv_has ls 6 [(0, va_rf (some t0)), (2, .long y2), (4, .int y4), (5, .int y5)] → W p l e ({ frames := 1, cells := 0, slots := 0, locals := 23 }) s m args below meth c H locs 0 0 (MQ below (hq_Q G vwCl B (some (.int out.1)) out.2) args s 0 0 (fun q => B ≤ q)) (F0 m 6 ls []) := by
  intro n
  induction n with
  | zero => intro t0 y2 y4 y5 h out hf; simp [f_EL_bars_L6] at hf
  | succ n ih =>
    intro t0 y2 y4 y5 h out hf H locs I ls hl
    simp only [f_EL_bars_L6] at hf
    refine lv_iload C.1.1 C.1.2.1 d_EL_bars_6 (lv_at hl 3 rfl) ?_
    refine lv_bipush (v := 20) C.1.1 C.1.2.1 d_EL_bars_8 (by decide) ?_
    refine lv_icmp_ge (tgt := 49) C.1.1 C.1.2.1 d_EL_bars_10 (by decide) (fun c1 => ?_) (fun c1 => ?_)
    · rw [if_pos c1] at hf
      refine lv_iconst (v := 0) C.1.1 C.1.2.1 d_EL_bars_49 (by decide) ?_
      cases hf
      exact hq_zret C I (hp_z_nar (x := 0) (Or.inl rfl)).1 (by decide) (by decide) d_EL_bars_50
    · rw [if_neg c1] at hf
      refine lv_iload C.1.1 C.1.2.1 d_EL_bars_13 (lv_at hl 2 rfl) ?_
      refine lv_if_le (tgt := 49) C.1.1 C.1.2.1 d_EL_bars_15 (by decide) (fun c2 => ?_) (fun c2 => ?_)
      · rw [if_pos c2] at hf
        refine lv_iconst (v := 0) C.1.1 C.1.2.1 d_EL_bars_49 (by decide) ?_
        cases hf
        exact hq_zret C I (hp_z_nar (x := 0) (Or.inl rfl)).1 (by decide) (by decide) d_EL_bars_50
      · rw [if_neg c2] at hf
        refine hq_aload_n C.1.1 C.1.2.1 d_EL_bars_18 rfl (lv_at hl 0 rfl) ?_
        replace hf := Option.bind_eq_some_iff.mp hf
        obtain ⟨x3, e4, hf⟩ := hf
        refine hq_getR C I F_EL_26 e4 d_EL_bars_19 ?_
        refine lv_iload C.1.1 C.1.2.1 d_EL_bars_22 (lv_at hl 2 rfl) ?_
        replace hf := Option.bind_eq_some_iff.mp hf
        obtain ⟨x5, e6, hf⟩ := hf
        refine hq_aald C I (t := 5) rfl e6 d_EL_bars_24 ?_
        refine lv_lload_n C.1.1 C.1.2.1 d_EL_bars_25 rfl (lv_at hl 1 rfl) ?_
        replace hf := Option.bind_eq_some_iff.mp hf
        obtain ⟨b9, e10, hf⟩ := hf
        obtain ⟨e10r, _, e10c⟩ := hp_o_inv e10
        replace hf := Option.bind_eq_some_iff.mp hf
        obtain ⟨q7, e8, hf⟩ := hf
        refine hq_callW gt_good C I hl.1 (k_DP_excludes l G B _ b9 y2 q7 e8) M_EL_34 e10c e10r ⟨rfl, rfl⟩ ⟨Nat.le_of_ble_eq_true rfl, Nat.le_of_ble_eq_true rfl⟩ rfl (Nat.le_of_ble_eq_true rfl) d_EL_bars_26 ⟨Nat.le_of_ble_eq_true rfl, Nat.le_of_ble_eq_true rfl⟩ (fun H locs I => ?_)
        refine W.widen (k := 0) (n := 0) (by decide) (by decide) ?_
        refine lv_if_eq (tgt := 34) C.1.1 C.1.2.1 d_EL_bars_29 (by decide) (fun c11 => ?_) (fun c11 => ?_)
        · rw [if_pos c11] at hf
          refine hq_aload_n C.1.1 C.1.2.1 d_EL_bars_34 rfl (lv_at hl 0 rfl) ?_
          replace hf := Option.bind_eq_some_iff.mp hf
          obtain ⟨x12, e13, hf⟩ := hf
          refine hq_getR C I F_EL_21 e13 d_EL_bars_35 ?_
          refine lv_iload C.1.1 C.1.2.1 d_EL_bars_38 (lv_at hl 2 rfl) ?_
          replace hf := Option.bind_eq_some_iff.mp hf
          obtain ⟨x14, e15, hf⟩ := hf
          refine hq_iald C I (t := 0) rfl e15 d_EL_bars_40 ?_
          refine lv_istore (i := 4) (lv' := [(4, .int x14), (0, va_rf (some t0)), (2, .long y2), (5, .int y5)]) C.1.1 C.1.2.1 d_EL_bars_41 hl (by decide) (by first | rfl | simp [hq_cat, hq_catI, hq_catL]) (fun ls hl => ?_)
          refine lv_iinc (v := (y5 + 1)) (lv' := [(5, .int (y5 + 1)), (4, .int x14), (0, va_rf (some t0)), (2, .long y2)]) C.1.1 C.1.2.1 d_EL_bars_43 hl (k := 3) rfl rfl (by decide) (by first | rfl | simp [hq_cat, hq_catI, hq_catL]) (fun ls hl => ?_)
          refine lv_goto (tgt := 6) C.1.1 C.1.2.1 d_EL_bars_46 (by decide) ?_
          refine W.widen (k := 0) (n := 0) (by decide) (by decide) ?_
          exact ih t0 y2 x14 (y5 + 1) q7.2 _ hf _ _ I ls (lv_sub hl [2, 3, 1, 0] rfl)
        · rw [if_neg c11] at hf
          refine lv_iconst (v := 1) C.1.1 C.1.2.1 d_EL_bars_32 (by decide) ?_
          cases hf
          exact hq_zret C I (hp_z_nar (x := 1) (Or.inr rfl)).1 (by decide) (by decide) d_EL_bars_33
set_option maxRecDepth 100000 in
set_option maxHeartbeats 4000000 in
theorem k_EL_bars (l : Launch) (G : hp_G) (B : Nat) (h : hp_H) (t0 : Nat) (p1 : Int32) (p2 : Int64) (out : Int32 × hp_H) (hf : f_EL_bars h t0 p1 p2 = some out) : Met l y_EL_bars (.code y_EL_bars b_EL_bars 6 ((Option.some Jvm.ClassFile.FieldType.boolean)) :: gt) ({ frames := 1, cells := 0, slots := 0, locals := 23 }) (hq_Pc G vwCl aTs B h [.ref t0, .int p1, .long p2]) (hq_Q G vwCl B (some (.int out.1)) out.2) 0 0 (fun q => B ≤ q) := by
  refine hq_enter (nL := 6) (by decide +kernel) (Nat.le_of_ble_eq_true rfl) ?_
  intro p e s m args below meth c C I ls hl
  have hl : lv_has ls 6 [(0, va_rf (some t0)), (1, .int p1), (2, .long p2)] := hl
  unfold f_EL_bars at hf
  refine lv_iload_n C.1.1 C.1.2.1 d_EL_bars_0 rfl (lv_at hl 1 rfl) ?_
  refine lv_istore (i := 4) (lv' := [(4, .int p1), (0, va_rf (some t0)), (1, .int p1), (2, .long p2)]) C.1.1 C.1.2.1 d_EL_bars_1 hl (by decide) (by first | rfl | simp [hq_cat, hq_catI, hq_catL]) (fun ls hl => ?_)
  refine lv_iconst (v := 0) C.1.1 C.1.2.1 d_EL_bars_3 (by decide) ?_
  refine lv_istore (i := 5) (lv' := [(5, .int (0 : Int32)), (4, .int p1), (0, va_rf (some t0)), (1, .int p1), (2, .long p2)]) C.1.1 C.1.2.1 d_EL_bars_4 hl (by decide) (by first | rfl | simp [hq_cat, hq_catI, hq_catL]) (fun ls hl => ?_)
  refine W.widen (k := 0) (n := 0) (by decide) (by decide) ?_
  exact k_EL_bars_L6 C FU t0 p2 p1 (0 : Int32) h _ hf _ _ I ls (lv_sub hl [2, 4, 1, 0] rfl)
set_option maxRecDepth 100000 in
set_option maxHeartbeats 4000000 in
theorem k_EL_artifactNamed_L2 {p : Program} {l : Launch} {e : Env} {s : State} {m : MethodId} {args : Array Value} {below : List Frame} {meth : Method} {c : Code} {G : hp_G} {B : Nat} (C : hq_C p s m args meth c b_EL_artifactNamed 4 ((Option.some (Jvm.ClassFile.FieldType.object "LayeredLauncher$Artifact"))) "LayeredLauncher$EntryList" "artifactNamed" gt G vwCl aTs) : ∀ (n : Nat) (t0 : Nat) (y1 : Int64) (y3 : Int32) (h : hp_H) (out : Option Nat × hp_H), f_EL_artifactNamed_L2 n t0 y1 y3 h = some out → ∀ (H : Heap) (locs : List Loc), hp_I G vwCl B s.heap h H locs → ∀ ls : Array Slot, lv_has ls 4 [(0, va_rf (some t0)), (1, .long y1), (3, .int y3)] → W p l e ({ frames := 0, cells := 0, slots := 0, locals := 0 }) s m args below meth c H locs 0 0 (MQ below (hq_Q G vwCl B (some (va_rf out.1)) out.2) args s 0 0 (fun q => B ≤ q)) (F0 m 2 ls []) := by
  intro n
  induction n with
  | zero => intro t0 y1 y3 h out hf; simp [f_EL_artifactNamed_L2] at hf
  | succ n ih =>
    intro t0 y1 y3 h out hf H locs I ls hl
    simp only [f_EL_artifactNamed_L2] at hf
    refine lv_iload_n C.1.1 C.1.2.1 d_EL_artifactNamed_2 rfl (lv_at hl 2 rfl) ?_
    refine hq_aload_n C.1.1 C.1.2.1 d_EL_artifactNamed_3 rfl (lv_at hl 0 rfl) ?_
    replace hf := Option.bind_eq_some_iff.mp hf
    obtain ⟨x1, e2, hf⟩ := hf
    refine hq_getI C I F_EL_30 e2 d_EL_artifactNamed_4 ?_
    refine lv_icmp_ge (tgt := 37) C.1.1 C.1.2.1 d_EL_artifactNamed_7 (by decide) (fun c3 => ?_) (fun c3 => ?_)
    · rw [if_pos c3] at hf
      refine lv_null C.1.1 C.1.2.1 d_EL_artifactNamed_37 ?_
      cases hf
      exact hq_aret C I (Or.inl ⟨_, rfl⟩) (by decide) (by decide) d_EL_artifactNamed_38
    · rw [if_neg c3] at hf
      refine hq_aload_n C.1.1 C.1.2.1 d_EL_artifactNamed_10 rfl (lv_at hl 0 rfl) ?_
      replace hf := Option.bind_eq_some_iff.mp hf
      obtain ⟨x4, e5, hf⟩ := hf
      refine hq_getR C I F_EL_11 e5 d_EL_artifactNamed_11 ?_
      refine lv_iload_n C.1.1 C.1.2.1 d_EL_artifactNamed_14 rfl (lv_at hl 2 rfl) ?_
      replace hf := Option.bind_eq_some_iff.mp hf
      obtain ⟨x6, e7, hf⟩ := hf
      refine hq_aald C I (t := 4) rfl e7 d_EL_artifactNamed_15 ?_
      replace hf := Option.bind_eq_some_iff.mp hf
      obtain ⟨x8, e9, hf⟩ := hf
      refine hq_getL C I F_EL_38 e9 d_EL_artifactNamed_16 ?_
      refine lv_lload_n C.1.1 C.1.2.1 d_EL_artifactNamed_19 rfl (lv_at hl 1 rfl) ?_
      refine W.lcmp C.1.1 C.1.2.1 d_EL_artifactNamed_20 ?_
      refine lv_if_ne (tgt := 31) C.1.1 C.1.2.1 d_EL_artifactNamed_21 (by decide) (fun c10 => ?_) (fun c10 => ?_)
      · rw [if_neg c10] at hf
        refine lv_iinc (v := (y3 + 1)) (lv' := [(3, .int (y3 + 1)), (0, va_rf (some t0)), (1, .long y1)]) C.1.1 C.1.2.1 d_EL_artifactNamed_31 hl (k := 2) rfl rfl (by decide) (by first | rfl | simp [hq_cat, hq_catI, hq_catL]) (fun ls hl => ?_)
        refine lv_goto (tgt := 2) C.1.1 C.1.2.1 d_EL_artifactNamed_34 (by decide) ?_
        refine W.widen (k := 0) (n := 0) (by decide) (by decide) ?_
        exact ih t0 y1 (y3 + 1) h _ hf _ _ I ls (lv_sub hl [1, 2, 0] rfl)
      · rw [if_pos c10] at hf
        refine hq_aload_n C.1.1 C.1.2.1 d_EL_artifactNamed_24 rfl (lv_at hl 0 rfl) ?_
        replace hf := Option.bind_eq_some_iff.mp hf
        obtain ⟨x11, e12, hf⟩ := hf
        refine hq_getR C I F_EL_11 e12 d_EL_artifactNamed_25 ?_
        refine lv_iload_n C.1.1 C.1.2.1 d_EL_artifactNamed_28 rfl (lv_at hl 2 rfl) ?_
        replace hf := Option.bind_eq_some_iff.mp hf
        obtain ⟨x13, e14, hf⟩ := hf
        refine hq_aald C I (t := 4) rfl e14 d_EL_artifactNamed_29 ?_
        cases hf
        exact hq_aret C I (Or.inl ⟨_, rfl⟩) (by decide) (by decide) d_EL_artifactNamed_30
set_option maxRecDepth 100000 in
set_option maxHeartbeats 4000000 in
theorem k_EL_artifactNamed (l : Launch) (G : hp_G) (B : Nat) (h : hp_H) (t0 : Nat) (p1 : Int64) (out : Option Nat × hp_H) (hf : f_EL_artifactNamed h t0 p1 = some out) : Met l y_EL_artifactNamed (.code y_EL_artifactNamed b_EL_artifactNamed 4 ((Option.some (Jvm.ClassFile.FieldType.object "LayeredLauncher$Artifact"))) :: gt) ({ frames := 0, cells := 0, slots := 0, locals := 0 }) (hq_Pc G vwCl aTs B h [.ref t0, .long p1]) (hq_Q G vwCl B (some (va_rf out.1)) out.2) 0 0 (fun q => B ≤ q) := by
  refine hq_enter (nL := 4) (by decide +kernel) (Nat.le_of_ble_eq_true rfl) ?_
  intro p e s m args below meth c C I ls hl
  have hl : lv_has ls 4 [(0, va_rf (some t0)), (1, .long p1)] := hl
  unfold f_EL_artifactNamed at hf
  refine lv_iconst (v := 0) C.1.1 C.1.2.1 d_EL_artifactNamed_0 (by decide) ?_
  refine lv_istore_n (i := 3) (lv' := [(3, .int (0 : Int32)), (0, va_rf (some t0)), (1, .long p1)]) C.1.1 C.1.2.1 d_EL_artifactNamed_1 rfl hl (by decide) (by first | rfl | simp [hq_cat, hq_catI, hq_catL]) (fun ls hl => ?_)
  refine W.widen (k := 0) (n := 0) (by decide) (by decide) ?_
  exact k_EL_artifactNamed_L2 C FU t0 p1 (0 : Int32) h _ hf _ _ I ls (lv_sub hl [1, 2, 0] rfl)
set_option maxRecDepth 100000 in
set_option maxHeartbeats 4000000 in
theorem k_EL_add (l : Launch) (G : hp_G) (B : Nat) (h : hp_H) (t0 : Nat) (p1 : Option Nat) (p2 : Int32) (p3 : Option Nat) (out : hp_H) (hf : f_EL_add h t0 p1 p2 p3 = some out) : Met l y_EL_add (.code y_EL_add b_EL_add 4 ((Option.none : Option Jvm.ClassFile.FieldType)) :: gt) ({ frames := 0, cells := 0, slots := 0, locals := 0 }) (hq_Pc G vwCl aTs B h [.ref t0, va_rf p1, .int p2, va_rf p3]) (hq_Q G vwCl B none out) 0 0 (fun q => B ≤ q) := by
  refine hq_enter (nL := 4) (by decide +kernel) (by simp [lg_sl, hq_cat, hq_catI, hq_catL, hq_catR]) ?_
  intro p e s m args below meth c C I ls hl
  have hl : lv_has ls 4 [(0, va_rf (some t0)), (1, va_rf p1), (2, .int p2), (3, va_rf p3)] := by simp [lv_args, hq_cat, hq_catI, hq_catL, hq_catR] at hl; exact hl
  unfold f_EL_add at hf
  refine hq_aload_n C.1.1 C.1.2.1 d_EL_add_0 rfl (lv_at hl 0 rfl) ?_
  replace hf := Option.bind_eq_some_iff.mp hf
  obtain ⟨x1, e2, hf⟩ := hf
  refine hq_getI C I F_EL_30 e2 d_EL_add_1 ?_
  refine lv_bipush (v := 20) C.1.1 C.1.2.1 d_EL_add_4 (by decide) ?_
  refine lv_icmp_ge (tgt := 66) C.1.1 C.1.2.1 d_EL_add_6 (by decide) (fun c3 => ?_) (fun c3 => ?_)
  · rw [if_pos c3] at hf
    cases hf
    exact hq_vret C I (by decide) (by decide) d_EL_add_66
  · rw [if_neg c3] at hf
    refine hq_aload_n C.1.1 C.1.2.1 d_EL_add_9 rfl (lv_at hl 0 rfl) ?_
    replace hf := Option.bind_eq_some_iff.mp hf
    obtain ⟨x4, e5, hf⟩ := hf
    refine hq_getR C I F_EL_11 e5 d_EL_add_10 ?_
    refine hq_aload_n C.1.1 C.1.2.1 d_EL_add_13 rfl (lv_at hl 0 rfl) ?_
    replace hf := Option.bind_eq_some_iff.mp hf
    obtain ⟨x6, e7, hf⟩ := hf
    refine hq_getI C I F_EL_30 e7 d_EL_add_14 ?_
    refine hq_aload_n C.1.1 C.1.2.1 d_EL_add_17 rfl (lv_at hl 1 rfl) ?_
    replace hf := Option.bind_eq_some_iff.mp hf
    obtain ⟨h8, e9, hf⟩ := hf
    refine hq_aast C I (t := 4) (ci := 3) rfl rfl e9 d_EL_add_18 (fun H locs I => ?_)
    refine hq_aload_n C.1.1 C.1.2.1 d_EL_add_19 rfl (lv_at hl 0 rfl) ?_
    replace hf := Option.bind_eq_some_iff.mp hf
    obtain ⟨x10, e11, hf⟩ := hf
    refine hq_getR C I F_EL_17 e11 d_EL_add_20 ?_
    refine hq_aload_n C.1.1 C.1.2.1 d_EL_add_23 rfl (lv_at hl 0 rfl) ?_
    replace hf := Option.bind_eq_some_iff.mp hf
    obtain ⟨x12, e13, hf⟩ := hf
    refine hq_getI C I F_EL_30 e13 d_EL_add_24 ?_
    refine hq_aload_n C.1.1 C.1.2.1 d_EL_add_27 rfl (lv_at hl 0 rfl) ?_
    replace hf := Option.bind_eq_some_iff.mp hf
    obtain ⟨x14, e15, hf⟩ := hf
    refine hq_getR C I F_EL_17 e15 d_EL_add_28 ?_
    refine lv_iload_n C.1.1 C.1.2.1 d_EL_add_31 rfl (lv_at hl 2 rfl) ?_
    replace hf := Option.bind_eq_some_iff.mp hf
    obtain ⟨x16, e17, hf⟩ := hf
    refine hq_iald C I (t := 0) rfl e17 d_EL_add_32 ?_
    refine lv_iconst (v := 1) C.1.1 C.1.2.1 d_EL_add_33 (by decide) ?_
    refine lv_iadd C.1.1 C.1.2.1 d_EL_add_34 ?_
    replace hf := Option.bind_eq_some_iff.mp hf
    obtain ⟨h18, e19, hf⟩ := hf
    refine hq_iast C I (t := 0) rfl e19 d_EL_add_35 (fun H locs I => ?_)
    refine hq_aload_n C.1.1 C.1.2.1 d_EL_add_36 rfl (lv_at hl 0 rfl) ?_
    replace hf := Option.bind_eq_some_iff.mp hf
    obtain ⟨x20, e21, hf⟩ := hf
    refine hq_getR C I F_EL_21 e21 d_EL_add_37 ?_
    refine hq_aload_n C.1.1 C.1.2.1 d_EL_add_40 rfl (lv_at hl 0 rfl) ?_
    replace hf := Option.bind_eq_some_iff.mp hf
    obtain ⟨x22, e23, hf⟩ := hf
    refine hq_getI C I F_EL_30 e23 d_EL_add_41 ?_
    refine lv_iload_n C.1.1 C.1.2.1 d_EL_add_44 rfl (lv_at hl 2 rfl) ?_
    replace hf := Option.bind_eq_some_iff.mp hf
    obtain ⟨h24, e25, hf⟩ := hf
    refine hq_iast C I (t := 0) rfl e25 d_EL_add_45 (fun H locs I => ?_)
    refine hq_aload_n C.1.1 C.1.2.1 d_EL_add_46 rfl (lv_at hl 0 rfl) ?_
    replace hf := Option.bind_eq_some_iff.mp hf
    obtain ⟨x26, e27, hf⟩ := hf
    refine hq_getR C I F_EL_26 e27 d_EL_add_47 ?_
    refine hq_aload_n C.1.1 C.1.2.1 d_EL_add_50 rfl (lv_at hl 0 rfl) ?_
    replace hf := Option.bind_eq_some_iff.mp hf
    obtain ⟨x28, e29, hf⟩ := hf
    refine hq_getI C I F_EL_30 e29 d_EL_add_51 ?_
    refine hq_aload_n C.1.1 C.1.2.1 d_EL_add_54 rfl (lv_at hl 3 rfl) ?_
    replace hf := Option.bind_eq_some_iff.mp hf
    obtain ⟨h30, e31, hf⟩ := hf
    refine hq_aast C I (t := 5) (ci := 4) rfl rfl e31 d_EL_add_55 (fun H locs I => ?_)
    refine hq_aload_n C.1.1 C.1.2.1 d_EL_add_56 rfl (lv_at hl 0 rfl) ?_
    refine lv_dup C.1.1 C.1.2.1 d_EL_add_57 (hq_cat _) ?_
    replace hf := Option.bind_eq_some_iff.mp hf
    obtain ⟨x32, e33, hf⟩ := hf
    refine hq_getI C I F_EL_30 e33 d_EL_add_58 ?_
    refine lv_iconst (v := 1) C.1.1 C.1.2.1 d_EL_add_61 (by decide) ?_
    refine lv_iadd C.1.1 C.1.2.1 d_EL_add_62 ?_
    replace hf := Option.bind_eq_some_iff.mp hf
    obtain ⟨h34, e35, hf⟩ := hf
    refine hq_put C I F_EL_30 e35 rfl rfl d_EL_add_63 (fun H locs I => ?_)
    cases hf
    exact hq_vret C I (by decide) (by decide) d_EL_add_66
set_option maxRecDepth 100000 in
set_option maxHeartbeats 4000000 in
theorem k_LL_follow_L19 {p : Program} {l : Launch} {e : Env} {s : State} {m : MethodId} {args : Array Value} {below : List Frame} {meth : Method} {c : Code} {G : hp_G} {B : Nat} (C : hq_C p s m args meth c b_LL_follow 5 ((Option.some Jvm.ClassFile.FieldType.int)) "LayeredLauncher" "follow" gt G vwCl aTs) : ∀ (t0 : Nat) (y1 : Int32) (y2 : Option Nat) (h : hp_H) (out : Int32 × hp_H), f_LL_follow_L19 t0 y1 y2 h = some out → ∀ (H : Heap) (locs : List Loc), hp_I G vwCl B s.heap h H locs → ∀ ls : Array Slot, lv_has ls 5 [(0, va_rf (some t0)), (1, .int y1), (2, va_rf y2)] → W p l e ({ frames := 4, cells := 0, slots := 0, locals := 92 }) s m args below meth c H locs 0 0 (MQ below (hq_Q G vwCl B (some (.int out.1)) out.2) args s 0 0 (fun q => B ≤ q)) (F0 m 19 ls []) := by
  intro t0 y1 y2 h out hf H locs I ls hl
  unfold f_LL_follow_L19 at hf
  refine hq_aload_n C.1.1 C.1.2.1 d_LL_follow_19 rfl (lv_at hl 0 rfl) ?_
  replace hf := Option.bind_eq_some_iff.mp hf
  obtain ⟨x11, e12, hf⟩ := hf
  refine hq_getR C I F_LL_33 e12 d_LL_follow_20 ?_
  refine lv_iload_n C.1.1 C.1.2.1 d_LL_follow_23 rfl (lv_at hl 1 rfl) ?_
  refine hq_aload_n C.1.1 C.1.2.1 d_LL_follow_24 rfl (lv_at hl 2 rfl) ?_
  replace hf := Option.bind_eq_some_iff.mp hf
  obtain ⟨x13, e14, hf⟩ := hf
  refine hq_getL C I F_LL_200 e14 d_LL_follow_25 ?_
  replace hf := Option.bind_eq_some_iff.mp hf
  obtain ⟨b17, e18, hf⟩ := hf
  obtain ⟨e18r, _, e18c⟩ := hp_o_inv e18
  replace hf := Option.bind_eq_some_iff.mp hf
  obtain ⟨q15, e16, hf⟩ := hf
  refine hq_callW gt_good C I hl.1 (k_EL_bars l G B _ b17 y1 x13 q15 e16) M_LL_201 e18c e18r ⟨rfl, rfl⟩ ⟨Nat.le_of_ble_eq_true rfl, Nat.le_of_ble_eq_true rfl⟩ rfl (Nat.le_of_ble_eq_true rfl) d_LL_follow_28 ⟨Nat.le_of_ble_eq_true rfl, Nat.le_of_ble_eq_true rfl⟩ (fun H locs I => ?_)
  refine W.widen (k := 0) (n := 0) (by decide) (by decide) ?_
  refine lv_if_eq (tgt := 36) C.1.1 C.1.2.1 d_LL_follow_31 (by decide) (fun c19 => ?_) (fun c19 => ?_)
  · rw [if_pos c19] at hf
    refine hq_aload_n C.1.1 C.1.2.1 d_LL_follow_36 rfl (lv_at hl 0 rfl) ?_
    replace hf := Option.bind_eq_some_iff.mp hf
    obtain ⟨x20, e21, hf⟩ := hf
    refine hq_getR C I F_LL_33 e21 d_LL_follow_37 ?_
    refine hq_aload_n C.1.1 C.1.2.1 d_LL_follow_40 rfl (lv_at hl 2 rfl) ?_
    replace hf := Option.bind_eq_some_iff.mp hf
    obtain ⟨x22, e23, hf⟩ := hf
    refine hq_getL C I F_LL_200 e23 d_LL_follow_41 ?_
    replace hf := Option.bind_eq_some_iff.mp hf
    obtain ⟨b26, e27, hf⟩ := hf
    obtain ⟨e27r, _, e27c⟩ := hp_o_inv e27
    replace hf := Option.bind_eq_some_iff.mp hf
    obtain ⟨q24, e25, hf⟩ := hf
    refine hq_callW gt_good C I hl.1 (k_EL_artifactNamed l G B _ b26 x22 q24 e25) M_LL_205 e27c e27r ⟨rfl, rfl⟩ ⟨Nat.le_of_ble_eq_true rfl, Nat.le_of_ble_eq_true rfl⟩ rfl (Nat.le_of_ble_eq_true rfl) d_LL_follow_44 ⟨Nat.le_of_ble_eq_true rfl, Nat.le_of_ble_eq_true rfl⟩ (fun H locs I => ?_)
    refine W.widen (k := 0) (n := 0) (by decide) (by decide) ?_
    refine hq_astore_n (r := q24.1) (i := 3) (lv' := [(3, va_rf q24.1), (0, va_rf (some t0)), (1, .int y1), (2, va_rf y2)]) C.1.1 C.1.2.1 d_LL_follow_47 rfl hl (by decide) (by first | rfl | simp [hq_cat, hq_catI, hq_catL]) (fun ls hl => ?_)
    refine hq_aload_n C.1.1 C.1.2.1 d_LL_follow_48 rfl (lv_at hl 0 rfl) ?_
    refine hq_ifnull (tgt := 95) C.1.1 C.1.2.1 d_LL_follow_49 (by decide) (fun c28 => ?_) (fun c28 => ?_)
    · rw [if_pos c28] at hf
      refine hq_aload_n C.1.1 C.1.2.1 d_LL_follow_95 rfl (lv_at hl 1 rfl) ?_
      refine hq_aload_n C.1.1 C.1.2.1 d_LL_follow_96 rfl (lv_at hl 3 rfl) ?_
      replace hf := Option.bind_eq_some_iff.mp hf
      obtain ⟨x29, e30, hf⟩ := hf
      refine hq_getL C I F_LL_200 e30 d_LL_follow_97 ?_
      refine hq_aload_n C.1.1 C.1.2.1 d_LL_follow_100 rfl (lv_at hl 3 rfl) ?_
      replace hf := Option.bind_eq_some_iff.mp hf
      obtain ⟨x31, e32, hf⟩ := hf
      refine hq_getR C I F_LL_209 e32 d_LL_follow_101 ?_
      replace hf := Option.bind_eq_some_iff.mp hf
      obtain ⟨b35, e36, hf⟩ := hf
      obtain ⟨e36r, _, e36c⟩ := hp_o_inv e36
      cases e36r
      replace hf := Option.bind_eq_some_iff.mp hf
      obtain ⟨q33, e34, hf⟩ := hf
      refine hq_callW gt_good C I hl.1 (k_LL_pickFor l G B _ t0 x29 x31 q33 e34) M_LL_71 e36c rfl ⟨rfl, rfl⟩ ⟨Nat.le_of_ble_eq_true rfl, Nat.le_of_ble_eq_true rfl⟩ rfl (Nat.le_of_ble_eq_true rfl) d_LL_follow_104 ⟨Nat.le_of_ble_eq_true rfl, Nat.le_of_ble_eq_true rfl⟩ (fun H locs I => ?_)
      refine W.widen (k := 0) (n := 0) (by decide) (by decide) ?_
      refine hq_astore (r := q33.1) (i := 4) (lv' := [(4, va_rf q33.1), (3, va_rf q24.1), (0, va_rf (some t0)), (1, .int y1), (2, va_rf y2)]) C.1.1 C.1.2.1 d_LL_follow_107 hl (by decide) (by first | rfl | simp [hq_cat, hq_catI, hq_catL]) (fun ls hl => ?_)
      refine hq_aload C.1.1 C.1.2.1 d_LL_follow_109 (lv_at hl 0 rfl) ?_
      refine hq_ifnonnull (tgt := 117) C.1.1 C.1.2.1 d_LL_follow_111 (by decide) (fun c37 => ?_) (fun c37 => ?_)
      · rw [if_neg c37] at hf
        refine hq_aload_n C.1.1 C.1.2.1 d_LL_follow_117 rfl (lv_at hl 2 rfl) ?_
        replace hf := Option.bind_eq_some_iff.mp hf
        obtain ⟨x38, e39, hf⟩ := hf
        refine hq_getR C I F_LL_33 e39 d_LL_follow_118 ?_
        refine hq_aload C.1.1 C.1.2.1 d_LL_follow_121 (lv_at hl 0 rfl) ?_
        refine lv_iload_n C.1.1 C.1.2.1 d_LL_follow_123 rfl (lv_at hl 3 rfl) ?_
        refine hq_aload_n C.1.1 C.1.2.1 d_LL_follow_124 rfl (lv_at hl 4 rfl) ?_
        replace hf := Option.bind_eq_some_iff.mp hf
        obtain ⟨b42, e43, hf⟩ := hf
        obtain ⟨e43r, _, e43c⟩ := hp_o_inv e43
        replace hf := Option.bind_eq_some_iff.mp hf
        obtain ⟨q40, e41, hf⟩ := hf
        refine hq_callW gt_good C I hl.1 (k_EL_add l G B _ b42 q33.1 y1 y2 q40 e41) M_LL_216 e43c e43r ⟨rfl, rfl⟩ ⟨Nat.le_of_ble_eq_true rfl, Nat.le_of_ble_eq_true rfl⟩ rfl (Nat.le_of_ble_eq_true rfl) d_LL_follow_125 ⟨Nat.le_of_ble_eq_true rfl, Nat.le_of_ble_eq_true rfl⟩ (fun H locs I => ?_)
        refine W.widen (k := 0) (n := 0) (by decide) (by decide) ?_
        refine lv_iconst (v := 0) C.1.1 C.1.2.1 d_LL_follow_128 (by decide) ?_
        cases hf
        exact hq_iret C I (by decide) (by decide) d_LL_follow_129
      · rw [if_pos c37] at hf
        refine lv_bipush (v := -4) C.1.1 C.1.2.1 d_LL_follow_114 (by decide) ?_
        cases hf
        exact hq_iret C I (by decide) (by decide) d_LL_follow_116
    · rw [if_neg c28] at hf
      refine hq_aload_n C.1.1 C.1.2.1 d_LL_follow_52 rfl (lv_at hl 3 rfl) ?_
      replace hf := Option.bind_eq_some_iff.mp hf
      obtain ⟨x44, e45, hf⟩ := hf
      refine hq_getR C I F_LL_209 e45 d_LL_follow_53 ?_
      replace hf := Option.bind_eq_some_iff.mp hf
      obtain ⟨x46, e47, hf⟩ := hf
      refine hq_getI C I F_LL_213 e47 d_LL_follow_56 ?_
      refine lv_if_ne (tgt := 76) C.1.1 C.1.2.1 d_LL_follow_59 (by decide) (fun c48 => ?_) (fun c48 => ?_)
      · rw [if_neg c48] at hf
        refine lv_iconst (v := 1) C.1.1 C.1.2.1 d_LL_follow_76 (by decide) ?_
        refine lv_goto (tgt := 81) C.1.1 C.1.2.1 d_LL_follow_77 (by decide) ?_
        refine lv_istore (i := 4) (lv' := [(4, .int (1 : Int32)), (3, va_rf q24.1), (0, va_rf (some t0)), (1, .int y1), (2, va_rf y2)]) C.1.1 C.1.2.1 d_LL_follow_81 hl (by decide) (by first | rfl | simp [hq_cat, hq_catI, hq_catL]) (fun ls hl => ?_)
        refine lv_iload C.1.1 C.1.2.1 d_LL_follow_83 (lv_at hl 0 rfl) ?_
        refine lv_if_eq (tgt := 92) C.1.1 C.1.2.1 d_LL_follow_85 (by decide) (fun c => absurd c (by decide)) (fun _ => ?_)
        refine lv_iconst (v := 0) C.1.1 C.1.2.1 d_LL_follow_88 (by decide) ?_
        refine lv_goto (tgt := 94) C.1.1 C.1.2.1 d_LL_follow_89 (by decide) ?_
        cases hf
        exact hq_iret C I (by decide) (by decide) d_LL_follow_94
      · rw [if_pos c48] at hf
        refine hq_aload_n C.1.1 C.1.2.1 d_LL_follow_62 rfl (lv_at hl 3 rfl) ?_
        replace hf := Option.bind_eq_some_iff.mp hf
        obtain ⟨x50, e51, hf⟩ := hf
        refine hq_getR C I F_LL_209 e51 d_LL_follow_63 ?_
        refine hq_aload_n C.1.1 C.1.2.1 d_LL_follow_66 rfl (lv_at hl 0 rfl) ?_
        replace hf := Option.bind_eq_some_iff.mp hf
        obtain ⟨x52, e53, hf⟩ := hf
        refine hq_getR C I F_LL_177 e53 d_LL_follow_67 ?_
        replace hf := Option.bind_eq_some_iff.mp hf
        obtain ⟨b56, e57, hf⟩ := hf
        obtain ⟨e57r, _, e57c⟩ := hp_o_inv e57
        replace hf := Option.bind_eq_some_iff.mp hf
        obtain ⟨q54, e55, hf⟩ := hf
        refine hq_callW gt_good C I hl.1 (k_RG_holds l G B _ b56 x52 q54 e55) M_LL_181 e57c e57r ⟨rfl, rfl⟩ ⟨Nat.le_of_ble_eq_true rfl, Nat.le_of_ble_eq_true rfl⟩ rfl (Nat.le_of_ble_eq_true rfl) d_LL_follow_70 ⟨Nat.le_of_ble_eq_true rfl, Nat.le_of_ble_eq_true rfl⟩ (fun H locs I => ?_)
        refine W.widen (k := 0) (n := 0) (by decide) (by decide) ?_
        refine lv_if_eq (tgt := 80) C.1.1 C.1.2.1 d_LL_follow_73 (by decide) (fun c58 => ?_) (fun c58 => ?_)
        · rw [if_pos c58] at hf
          refine lv_iconst (v := 0) C.1.1 C.1.2.1 d_LL_follow_80 (by decide) ?_
          refine lv_istore (i := 4) (lv' := [(4, .int (0 : Int32)), (3, va_rf q24.1), (0, va_rf (some t0)), (1, .int y1), (2, va_rf y2)]) C.1.1 C.1.2.1 d_LL_follow_81 hl (by decide) (by first | rfl | simp [hq_cat, hq_catI, hq_catL]) (fun ls hl => ?_)
          refine lv_iload C.1.1 C.1.2.1 d_LL_follow_83 (lv_at hl 0 rfl) ?_
          refine lv_if_eq (tgt := 92) C.1.1 C.1.2.1 d_LL_follow_85 (by decide) (fun _ => ?_) (fun c => absurd c (by decide))
          refine lv_bipush (v := -5) C.1.1 C.1.2.1 d_LL_follow_92 (by decide) ?_
          cases hf
          exact hq_iret C I (by decide) (by decide) d_LL_follow_94
        · rw [if_neg c58] at hf
          refine lv_iconst (v := 1) C.1.1 C.1.2.1 d_LL_follow_76 (by decide) ?_
          refine lv_goto (tgt := 81) C.1.1 C.1.2.1 d_LL_follow_77 (by decide) ?_
          refine lv_istore (i := 4) (lv' := [(4, .int (1 : Int32)), (3, va_rf q24.1), (0, va_rf (some t0)), (1, .int y1), (2, va_rf y2)]) C.1.1 C.1.2.1 d_LL_follow_81 hl (by decide) (by first | rfl | simp [hq_cat, hq_catI, hq_catL]) (fun ls hl => ?_)
          refine lv_iload C.1.1 C.1.2.1 d_LL_follow_83 (lv_at hl 0 rfl) ?_
          refine lv_if_eq (tgt := 92) C.1.1 C.1.2.1 d_LL_follow_85 (by decide) (fun c => absurd c (by decide)) (fun _ => ?_)
          refine lv_iconst (v := 0) C.1.1 C.1.2.1 d_LL_follow_88 (by decide) ?_
          refine lv_goto (tgt := 94) C.1.1 C.1.2.1 d_LL_follow_89 (by decide) ?_
          cases hf
          exact hq_iret C I (by decide) (by decide) d_LL_follow_94
  · rw [if_neg c19] at hf
    refine lv_iconst (v := 0) C.1.1 C.1.2.1 d_LL_follow_34 (by decide) ?_
    cases hf
    exact hq_iret C I (by decide) (by decide) d_LL_follow_35
set_option maxRecDepth 100000 in
set_option maxHeartbeats 4000000 in
theorem k_LL_follow (l : Launch) (G : hp_G) (B : Nat) (h : hp_H) (t0 : Nat) (p1 : Int32) (p2 : Option Nat) (out : Int32 × hp_H) (hf : f_LL_follow h t0 p1 p2 = some out) : Met l y_LL_follow (.code y_LL_follow b_LL_follow 5 ((Option.some Jvm.ClassFile.FieldType.int)) :: gt) ({ frames := 4, cells := 0, slots := 0, locals := 92 }) (hq_Pc G vwCl aTs B h [.ref t0, .int p1, va_rf p2]) (hq_Q G vwCl B (some (.int out.1)) out.2) 0 0 (fun q => B ≤ q) := by
  refine hq_enter (nL := 5) (by decide +kernel) (by simp [lg_sl, hq_cat, hq_catI, hq_catL, hq_catR]) ?_
  intro p e s m args below meth c C I ls hl
  have hl : lv_has ls 5 [(0, va_rf (some t0)), (1, .int p1), (2, va_rf p2)] := by simp [lv_args, hq_cat, hq_catI, hq_catL, hq_catR] at hl; exact hl
  unfold f_LL_follow at hf
  refine hq_aload_n C.1.1 C.1.2.1 d_LL_follow_0 rfl (lv_at hl 2 rfl) ?_
  replace hf := Option.bind_eq_some_iff.mp hf
  obtain ⟨x1, e2, hf⟩ := hf
  refine hq_getI C I F_LL_197 e2 d_LL_follow_1 ?_
  refine lv_if_eq (tgt := 19) C.1.1 C.1.2.1 d_LL_follow_4 (by decide) (fun c3 => ?_) (fun c3 => ?_)
  · rw [if_pos c3] at hf
    refine W.widen (k := 0) (n := 0) (by decide) (by decide) ?_
    exact k_LL_follow_L19 C t0 p1 p2 h _ hf _ _ I ls (lv_sub hl [0, 1, 2] rfl)
  · rw [if_neg c3] at hf
    refine hq_aload_n C.1.1 C.1.2.1 d_LL_follow_7 rfl (lv_at hl 0 rfl) ?_
    replace hf := Option.bind_eq_some_iff.mp hf
    obtain ⟨x4, e5, hf⟩ := hf
    refine hq_getR C I F_LL_33 e5 d_LL_follow_8 ?_
    replace hf := Option.bind_eq_some_iff.mp hf
    obtain ⟨x6, e7, hf⟩ := hf
    refine hq_getR C I F_LL_148 e7 d_LL_follow_11 ?_
    refine lv_iload_n C.1.1 C.1.2.1 d_LL_follow_14 rfl (lv_at hl 1 rfl) ?_
    replace hf := Option.bind_eq_some_iff.mp hf
    obtain ⟨x8, e9, hf⟩ := hf
    refine hq_iald C I (t := 0) rfl e9 d_LL_follow_15 ?_
    refine lv_if_ne (tgt := 34) C.1.1 C.1.2.1 d_LL_follow_16 (by decide) (fun c10 => ?_) (fun c10 => ?_)
    · rw [if_neg c10] at hf
      refine lv_iconst (v := 0) C.1.1 C.1.2.1 d_LL_follow_34 (by decide) ?_
      cases hf
      exact hq_iret C I (by decide) (by decide) d_LL_follow_35
    · rw [if_pos c10] at hf
      refine W.widen (k := 0) (n := 0) (by decide) (by decide) ?_
      exact k_LL_follow_L19 C t0 p1 p2 h _ hf _ _ I ls (lv_sub hl [0, 1, 2] rfl)
set_option maxRecDepth 100000 in
set_option maxHeartbeats 4000000 in
theorem k_LL_fillDraft_L40 {p : Program} {l : Launch} {e : Env} {s : State} {m : MethodId} {args : Array Value} {below : List Frame} {meth : Method} {c : Code} {G : hp_G} {B : Nat} (C : hq_C p s m args meth c b_LL_fillDraft 6 ((Option.some Jvm.ClassFile.FieldType.int)) "LayeredLauncher" "fillDraft" gt G vwCl aTs) (k10 : Nat → Int32 → hp_H → Option (Int32 × hp_H)) (hk10 : ∀ (t0 : Nat) (y2 : Int32) (h : hp_H) (out : Int32 × hp_H), k10 t0 y2 h = some out → ∀ (H : Heap) (locs : List Loc), hp_I G vwCl B s.heap h H locs → ∀ ls : Array Slot, lv_has ls 6 [(0, va_rf (some t0)), (2, .int y2)] → W p l e ({ frames := 5, cells := 0, slots := 0, locals := 116 }) s m args below meth c H locs 0 0 (MQ below (hq_Q G vwCl B (some (.int out.1)) out.2) args s 0 0 (fun q => B ≤ q)) (F0 m 10 ls [])) : ∀ (n : Nat) (t0 : Nat) (y2 : Int32) (y3 : Option Nat) (y4 : Int32) (h : hp_H) (out : Int32 × hp_H), f_LL_fillDraft_L40 k10 n t0 y2 y3 y4 h = some out → ∀ (H : Heap) (locs : List Loc), hp_I G vwCl B s.heap h H locs → ∀ ls : Array Slot, lv_has ls 6 [(0, va_rf (some t0)), (2, .int y2), (3, va_rf y3), (4, .int y4)] → W p l e ({ frames := 5, cells := 0, slots := 0, locals := 116 }) s m args below meth c H locs 0 0 (MQ below (hq_Q G vwCl B (some (.int out.1)) out.2) args s 0 0 (fun q => B ≤ q)) (F0 m 40 ls []) := by
  intro n
  induction n with
  | zero => intro t0 y2 y3 y4 h out hf; simp [f_LL_fillDraft_L40] at hf
  | succ n ih =>
    intro t0 y2 y3 y4 h out hf H locs I ls hl
    simp only [f_LL_fillDraft_L40] at hf
    refine lv_iload C.1.1 C.1.2.1 d_LL_fillDraft_40 (lv_at hl 3 rfl) ?_
    refine hq_aload_n C.1.1 C.1.2.1 d_LL_fillDraft_42 rfl (lv_at hl 2 rfl) ?_
    replace hf := Option.bind_eq_some_iff.mp hf
    obtain ⟨x19, e20, hf⟩ := hf
    refine hq_getI C I F_LL_86 e20 d_LL_fillDraft_43 ?_
    refine lv_icmp_ge (tgt := 91) C.1.1 C.1.2.1 d_LL_fillDraft_46 (by decide) (fun c21 => ?_) (fun c21 => ?_)
    · rw [if_pos c21] at hf
      refine lv_iinc (v := (y2 + 1)) (lv' := [(2, .int (y2 + 1)), (0, va_rf (some t0)), (3, va_rf y3), (4, .int y4)]) C.1.1 C.1.2.1 d_LL_fillDraft_91 hl (k := 1) rfl rfl (by decide) (by first | rfl | simp [hq_cat, hq_catI, hq_catL]) (fun ls hl => ?_)
      refine lv_goto (tgt := 10) C.1.1 C.1.2.1 d_LL_fillDraft_94 (by decide) ?_
      refine W.widen (k := 0) (n := 0) (by decide) (by decide) ?_
      exact hk10 t0 (y2 + 1) h _ hf _ _ I ls (lv_sub hl [1, 0] rfl)
    · rw [if_neg c21] at hf
      refine hq_aload_n C.1.1 C.1.2.1 d_LL_fillDraft_49 rfl (lv_at hl 0 rfl) ?_
      refine lv_iload_n C.1.1 C.1.2.1 d_LL_fillDraft_50 rfl (lv_at hl 1 rfl) ?_
      refine hq_aload_n C.1.1 C.1.2.1 d_LL_fillDraft_51 rfl (lv_at hl 2 rfl) ?_
      replace hf := Option.bind_eq_some_iff.mp hf
      obtain ⟨x22, e23, hf⟩ := hf
      refine hq_getR C I F_LL_189 e23 d_LL_fillDraft_52 ?_
      refine lv_iload C.1.1 C.1.2.1 d_LL_fillDraft_55 (lv_at hl 3 rfl) ?_
      replace hf := Option.bind_eq_some_iff.mp hf
      obtain ⟨x24, e25, hf⟩ := hf
      refine hq_aald C I (t := 5) rfl e25 d_LL_fillDraft_57 ?_
      replace hf := Option.bind_eq_some_iff.mp hf
      obtain ⟨b28, e29, hf⟩ := hf
      obtain ⟨e29r, _, e29c⟩ := hp_o_inv e29
      cases e29r
      replace hf := Option.bind_eq_some_iff.mp hf
      obtain ⟨q26, e27, hf⟩ := hf
      refine hq_callW gt_good C I hl.1 (k_LL_follow l G B _ t0 y2 x24 q26 e27) M_LL_193 e29c rfl ⟨rfl, rfl⟩ ⟨Nat.le_of_ble_eq_true rfl, Nat.le_of_ble_eq_true rfl⟩ rfl (Nat.le_of_ble_eq_true rfl) d_LL_fillDraft_58 ⟨Nat.le_of_ble_eq_true rfl, Nat.le_of_ble_eq_true rfl⟩ (fun H locs I => ?_)
      refine W.widen (k := 0) (n := 0) (by decide) (by decide) ?_
      refine lv_istore (i := 5) (lv' := [(5, .int q26.1), (0, va_rf (some t0)), (2, .int y2), (3, va_rf y3), (4, .int y4)]) C.1.1 C.1.2.1 d_LL_fillDraft_61 hl (by decide) (by first | rfl | simp [hq_cat, hq_catI, hq_catL]) (fun ls hl => ?_)
      refine lv_iload C.1.1 C.1.2.1 d_LL_fillDraft_63 (lv_at hl 0 rfl) ?_
      refine lv_if_eq (tgt := 85) C.1.1 C.1.2.1 d_LL_fillDraft_65 (by decide) (fun c30 => ?_) (fun c30 => ?_)
      · rw [if_pos c30] at hf
        refine lv_iinc (v := (y4 + 1)) (lv' := [(4, .int (y4 + 1)), (5, .int q26.1), (0, va_rf (some t0)), (2, .int y2), (3, va_rf y3)]) C.1.1 C.1.2.1 d_LL_fillDraft_85 hl (k := 4) rfl rfl (by decide) (by first | rfl | simp [hq_cat, hq_catI, hq_catL]) (fun ls hl => ?_)
        refine lv_goto (tgt := 40) C.1.1 C.1.2.1 d_LL_fillDraft_88 (by decide) ?_
        refine W.widen (k := 0) (n := 0) (by decide) (by decide) ?_
        exact ih t0 y2 y3 (y4 + 1) q26.2 _ hf _ _ I ls (lv_sub hl [2, 3, 4, 0] rfl)
      · rw [if_neg c30] at hf
        refine hq_aload_n C.1.1 C.1.2.1 d_LL_fillDraft_68 rfl (lv_at hl 1 rfl) ?_
        refine lv_bipush (v := 8) C.1.1 C.1.2.1 d_LL_fillDraft_69 (by decide) ?_
        refine hq_aload_n C.1.1 C.1.2.1 d_LL_fillDraft_71 rfl (lv_at hl 3 rfl) ?_
        replace hf := Option.bind_eq_some_iff.mp hf
        obtain ⟨x31, e32, hf⟩ := hf
        refine hq_getI C I F_LL_145 e32 d_LL_fillDraft_72 ?_
        refine lv_imul C.1.1 C.1.2.1 d_LL_fillDraft_75 ?_
        refine lv_iload C.1.1 C.1.2.1 d_LL_fillDraft_76 (lv_at hl 4 rfl) ?_
        refine lv_iadd C.1.1 C.1.2.1 d_LL_fillDraft_78 ?_
        replace hf := Option.bind_eq_some_iff.mp hf
        obtain ⟨h33, e34, hf⟩ := hf
        refine hq_put C I F_LL_36 e34 rfl rfl d_LL_fillDraft_79 (fun H locs I => ?_)
        refine lv_iload C.1.1 C.1.2.1 d_LL_fillDraft_82 (lv_at hl 0 rfl) ?_
        cases hf
        exact hq_iret C I (by decide) (by decide) d_LL_fillDraft_84
set_option maxRecDepth 100000 in
set_option maxHeartbeats 4000000 in
theorem k_LL_fillDraft_L10 {p : Program} {l : Launch} {e : Env} {s : State} {m : MethodId} {args : Array Value} {below : List Frame} {meth : Method} {c : Code} {G : hp_G} {B : Nat} (C : hq_C p s m args meth c b_LL_fillDraft 6 ((Option.some Jvm.ClassFile.FieldType.int)) "LayeredLauncher" "fillDraft" gt G vwCl aTs) : ∀ (n : Nat) (t0 : Nat) (y2 : Int32) (h : hp_H) (out : Int32 × hp_H), f_LL_fillDraft_L10 n t0 y2 h = some out → ∀ (H : Heap) (locs : List Loc), hp_I G vwCl B s.heap h H locs → ∀ ls : Array Slot, lv_has ls 6 [(0, va_rf (some t0)), (2, .int y2)] → W p l e ({ frames := 5, cells := 0, slots := 0, locals := 116 }) s m args below meth c H locs 0 0 (MQ below (hq_Q G vwCl B (some (.int out.1)) out.2) args s 0 0 (fun q => B ≤ q)) (F0 m 10 ls []) := by
  intro n
  induction n with
  | zero => intro t0 y2 h out hf; simp [f_LL_fillDraft_L10] at hf
  | succ n ih =>
    intro t0 y2 h out hf H locs I ls hl
    simp only [f_LL_fillDraft_L10] at hf
    refine lv_iload_n C.1.1 C.1.2.1 d_LL_fillDraft_10 rfl (lv_at hl 1 rfl) ?_
    refine hq_aload_n C.1.1 C.1.2.1 d_LL_fillDraft_11 rfl (lv_at hl 0 rfl) ?_
    replace hf := Option.bind_eq_some_iff.mp hf
    obtain ⟨x7, e8, hf⟩ := hf
    refine hq_getR C I F_LL_33 e8 d_LL_fillDraft_12 ?_
    replace hf := Option.bind_eq_some_iff.mp hf
    obtain ⟨x9, e10, hf⟩ := hf
    refine hq_getI C I F_LL_138 e10 d_LL_fillDraft_15 ?_
    refine lv_icmp_ge (tgt := 97) C.1.1 C.1.2.1 d_LL_fillDraft_18 (by decide) (fun c11 => ?_) (fun c11 => ?_)
    · rw [if_pos c11] at hf
      refine lv_iconst (v := 0) C.1.1 C.1.2.1 d_LL_fillDraft_97 (by decide) ?_
      cases hf
      exact hq_iret C I (by decide) (by decide) d_LL_fillDraft_98
    · rw [if_neg c11] at hf
      refine lv_iload_n C.1.1 C.1.2.1 d_LL_fillDraft_21 rfl (lv_at hl 1 rfl) ?_
      refine lv_bipush (v := 20) C.1.1 C.1.2.1 d_LL_fillDraft_22 (by decide) ?_
      refine lv_icmp_ge (tgt := 97) C.1.1 C.1.2.1 d_LL_fillDraft_24 (by decide) (fun c12 => ?_) (fun c12 => ?_)
      · rw [if_pos c12] at hf
        refine lv_iconst (v := 0) C.1.1 C.1.2.1 d_LL_fillDraft_97 (by decide) ?_
        cases hf
        exact hq_iret C I (by decide) (by decide) d_LL_fillDraft_98
      · rw [if_neg c12] at hf
        refine hq_aload_n C.1.1 C.1.2.1 d_LL_fillDraft_27 rfl (lv_at hl 0 rfl) ?_
        replace hf := Option.bind_eq_some_iff.mp hf
        obtain ⟨x13, e14, hf⟩ := hf
        refine hq_getR C I F_LL_33 e14 d_LL_fillDraft_28 ?_
        replace hf := Option.bind_eq_some_iff.mp hf
        obtain ⟨x15, e16, hf⟩ := hf
        refine hq_getR C I F_LL_144 e16 d_LL_fillDraft_31 ?_
        refine lv_iload_n C.1.1 C.1.2.1 d_LL_fillDraft_34 rfl (lv_at hl 1 rfl) ?_
        replace hf := Option.bind_eq_some_iff.mp hf
        obtain ⟨x17, e18, hf⟩ := hf
        refine hq_aald C I (t := 4) rfl e18 d_LL_fillDraft_35 ?_
        refine hq_astore_n (r := x17) (i := 3) (lv' := [(3, va_rf x17), (0, va_rf (some t0)), (2, .int y2)]) C.1.1 C.1.2.1 d_LL_fillDraft_36 rfl hl (by decide) (by first | rfl | simp [hq_cat, hq_catI, hq_catL]) (fun ls hl => ?_)
        refine lv_iconst (v := 0) C.1.1 C.1.2.1 d_LL_fillDraft_37 (by decide) ?_
        refine lv_istore (i := 4) (lv' := [(4, .int (0 : Int32)), (3, va_rf x17), (0, va_rf (some t0)), (2, .int y2)]) C.1.1 C.1.2.1 d_LL_fillDraft_38 hl (by decide) (by first | rfl | simp [hq_cat, hq_catI, hq_catL]) (fun ls hl => ?_)
        refine W.widen (k := 0) (n := 0) (by decide) (by decide) ?_
        exact k_LL_fillDraft_L40 C _ ih FU t0 y2 x17 (0 : Int32) h _ hf _ _ I ls (lv_sub hl [2, 3, 1, 0] rfl)
set_option maxRecDepth 100000 in
set_option maxHeartbeats 4000000 in
theorem k_LL_fillDraft (l : Launch) (G : hp_G) (B : Nat) (h : hp_H) (t0 : Nat) (p1 : Option Nat) (out : Int32 × hp_H) (hf : f_LL_fillDraft h t0 p1 = some out) : Met l y_LL_fillDraft (.code y_LL_fillDraft b_LL_fillDraft 6 ((Option.some Jvm.ClassFile.FieldType.int)) :: gt) ({ frames := 5, cells := 0, slots := 0, locals := 116 }) (hq_Pc G vwCl aTs B h [.ref t0, va_rf p1]) (hq_Q G vwCl B (some (.int out.1)) out.2) 0 0 (fun q => B ≤ q) := by
  refine hq_enter (nL := 6) (by decide +kernel) (by simp [lg_sl, hq_cat, hq_catI, hq_catL, hq_catR]) ?_
  intro p e s m args below meth c C I ls hl
  have hl : lv_has ls 6 [(0, va_rf (some t0)), (1, va_rf p1)] := by simp [lv_args, hq_cat, hq_catI, hq_catL, hq_catR] at hl; exact hl
  unfold f_LL_fillDraft at hf
  refine hq_aload_n C.1.1 C.1.2.1 d_LL_fillDraft_0 rfl (lv_at hl 0 rfl) ?_
  replace hf := Option.bind_eq_some_iff.mp hf
  obtain ⟨x1, e2, hf⟩ := hf
  refine hq_getR C I F_LL_33 e2 d_LL_fillDraft_1 ?_
  refine hq_aload_n C.1.1 C.1.2.1 d_LL_fillDraft_4 rfl (lv_at hl 1 rfl) ?_
  replace hf := Option.bind_eq_some_iff.mp hf
  obtain ⟨b5, e6, hf⟩ := hf
  obtain ⟨e6r, _, e6c⟩ := hp_o_inv e6
  replace hf := Option.bind_eq_some_iff.mp hf
  obtain ⟨q3, e4, hf⟩ := hf
  refine hq_callW gt_good C I hl.1 (k_EL_begin l G B _ b5 p1 q3 e4) M_LL_185 e6c e6r ⟨rfl, rfl⟩ ⟨Nat.le_of_ble_eq_true rfl, Nat.le_of_ble_eq_true rfl⟩ rfl (Nat.le_of_ble_eq_true rfl) d_LL_fillDraft_5 ⟨Nat.le_of_ble_eq_true rfl, Nat.le_of_ble_eq_true rfl⟩ (fun H locs I => ?_)
  refine W.widen (k := 0) (n := 0) (by decide) (by decide) ?_
  refine lv_iconst (v := 0) C.1.1 C.1.2.1 d_LL_fillDraft_8 (by decide) ?_
  refine lv_istore_n (i := 2) (lv' := [(2, .int (0 : Int32)), (0, va_rf (some t0)), (1, va_rf p1)]) C.1.1 C.1.2.1 d_LL_fillDraft_9 rfl hl (by decide) (by first | rfl | simp [hq_cat, hq_catI, hq_catL]) (fun ls hl => ?_)
  refine W.widen (k := 0) (n := 0) (by decide) (by decide) ?_
  exact k_LL_fillDraft_L10 C FU t0 (0 : Int32) q3 _ hf _ _ I ls (lv_sub hl [1, 0] rfl)
set_option maxRecDepth 100000 in
set_option maxHeartbeats 4000000 in
theorem k_LL_resolve (l : Launch) (G : hp_G) (B : Nat) (h : hp_H) (t0 : Nat) (out : Int32 × hp_H) (hf : f_LL_resolve h t0 = some out) : Met l y_LL_resolve (.code y_LL_resolve b_LL_resolve 8 ((Option.some Jvm.ClassFile.FieldType.int)) :: gt) ({ frames := 6, cells := 5, slots := 31, locals := 141 }) (hq_Pc G vwCl aTs B h [.ref t0]) (hq_Q G vwCl B (some (.int out.1)) out.2) 5 31 (fun q => B ≤ q) := by
  refine hq_enter (nL := 8) (by decide +kernel) (Nat.le_of_ble_eq_true rfl) ?_
  intro p e s m args below meth c C I ls hl
  have hl : lv_has ls 8 [(0, va_rf (some t0))] := hl
  unfold f_LL_resolve at hf
  refine hq_aload_n C.1.1 C.1.2.1 d_LL_resolve_0 rfl (lv_at hl 0 rfl) ?_
  replace hf := Option.bind_eq_some_iff.mp hf
  obtain ⟨x1, e2, hf⟩ := hf
  refine hq_getR C I F_LL_10 e2 d_LL_resolve_1 ?_
  replace hf := Option.bind_eq_some_iff.mp hf
  obtain ⟨b5, e6, hf⟩ := hf
  obtain ⟨e6r, _, e6c⟩ := hp_o_inv e6
  replace hf := Option.bind_eq_some_iff.mp hf
  obtain ⟨q3, e4, hf⟩ := hf
  refine hq_callW gt_good C I hl.1 (k_LN_takeNameAndColon l G B _ b5 q3 e4) M_LL_49 e6c e6r ⟨rfl, rfl⟩ ⟨Nat.le_of_ble_eq_true rfl, Nat.le_of_ble_eq_true rfl⟩ rfl (Nat.le_of_ble_eq_true rfl) d_LL_resolve_4 ⟨Nat.le_of_ble_eq_true rfl, Nat.le_of_ble_eq_true rfl⟩ (fun H locs I => ?_)
  refine W.widen (k := 0) (n := 0) (by decide) (by decide) ?_
  refine lv_lstore_n (i := 1) (lv' := [(1, .long q3.1), (0, va_rf (some t0))]) C.1.1 C.1.2.1 d_LL_resolve_7 rfl hl (by decide) (by first | rfl | simp [hq_cat, hq_catI, hq_catL]) (fun ls hl => ?_)
  refine hq_aload_n C.1.1 C.1.2.1 d_LL_resolve_8 rfl (lv_at hl 1 rfl) ?_
  replace hf := Option.bind_eq_some_iff.mp hf
  obtain ⟨x7, e8, hf⟩ := hf
  refine hq_getR C I F_LL_10 e8 d_LL_resolve_9 ?_
  replace hf := Option.bind_eq_some_iff.mp hf
  obtain ⟨b11, e12, hf⟩ := hf
  obtain ⟨e12r, _, e12c⟩ := hp_o_inv e12
  replace hf := Option.bind_eq_some_iff.mp hf
  obtain ⟨q9, e10, hf⟩ := hf
  refine hq_callW gt_good C I hl.1 (k_LN_takeRange l G B _ b11 q9 e10) M_LL_78 e12c e12r ⟨rfl, rfl⟩ ⟨Nat.le_of_ble_eq_true rfl, Nat.le_of_ble_eq_true rfl⟩ rfl (Nat.le_of_ble_eq_true rfl) d_LL_resolve_12 ⟨Nat.le_of_ble_eq_true rfl, Nat.le_of_ble_eq_true rfl⟩ (fun H locs I => ?_)
  refine W.widen (k := 5) (n := 31) (by decide) (by decide) ?_
  refine hq_astore_n (r := q9.1) (i := 3) (lv' := [(3, va_rf q9.1), (1, .long q3.1), (0, va_rf (some t0))]) C.1.1 C.1.2.1 d_LL_resolve_15 rfl hl (by decide) (by first | rfl | simp [hq_cat, hq_catI, hq_catL]) (fun ls hl => ?_)
  refine hq_aload_n C.1.1 C.1.2.1 d_LL_resolve_16 rfl (lv_at hl 2 rfl) ?_
  replace hf := Option.bind_eq_some_iff.mp hf
  obtain ⟨x13, e14, hf⟩ := hf
  refine hq_getR C I F_LL_10 e14 d_LL_resolve_17 ?_
  replace hf := Option.bind_eq_some_iff.mp hf
  obtain ⟨b17, e18, hf⟩ := hf
  obtain ⟨e18r, _, e18c⟩ := hp_o_inv e18
  replace hf := Option.bind_eq_some_iff.mp hf
  obtain ⟨q15, e16, hf⟩ := hf
  refine hq_callW gt_good C I hl.1 (k_LN_finishReading l G B _ b17 q15 e16) M_LL_61 e18c e18r ⟨rfl, rfl⟩ ⟨Nat.le_of_ble_eq_true rfl, Nat.le_of_ble_eq_true rfl⟩ rfl (Nat.le_of_ble_eq_true rfl) d_LL_resolve_20 ⟨Nat.le_of_ble_eq_true rfl, Nat.le_of_ble_eq_true rfl⟩ (fun H locs I => ?_)
  refine W.widen (k := 5) (n := 31) (by decide) (by decide) ?_
  refine lv_istore (i := 4) (lv' := [(4, .int q15.1), (3, va_rf q9.1), (1, .long q3.1), (0, va_rf (some t0))]) C.1.1 C.1.2.1 d_LL_resolve_23 hl (by decide) (by first | rfl | simp [hq_cat, hq_catI, hq_catL]) (fun ls hl => ?_)
  refine lv_lload_n C.1.1 C.1.2.1 d_LL_resolve_25 rfl (lv_at hl 2 rfl) ?_
  refine lv_lconst (v := 0) C.1.1 C.1.2.1 d_LL_resolve_26 (by decide) ?_
  refine W.lcmp C.1.1 C.1.2.1 d_LL_resolve_27 ?_
  refine lv_if_eq (tgt := 40) C.1.1 C.1.2.1 d_LL_resolve_28 (by decide) (fun c19 => ?_) (fun c19 => ?_)
  · rw [if_pos c19] at hf
    refine lv_bipush (v := -3) C.1.1 C.1.2.1 d_LL_resolve_40 (by decide) ?_
    cases hf
    exact hq_iret C I (by decide) (by decide) d_LL_resolve_42
  · rw [if_neg c19] at hf
    refine hq_aload_n C.1.1 C.1.2.1 d_LL_resolve_31 rfl (lv_at hl 1 rfl) ?_
    refine hq_ifnull (tgt := 40) C.1.1 C.1.2.1 d_LL_resolve_32 (by decide) (fun c20 => ?_) (fun c20 => ?_)
    · rw [if_pos c20] at hf
      refine lv_bipush (v := -3) C.1.1 C.1.2.1 d_LL_resolve_40 (by decide) ?_
      cases hf
      exact hq_iret C I (by decide) (by decide) d_LL_resolve_42
    · rw [if_neg c20] at hf
      refine lv_iload C.1.1 C.1.2.1 d_LL_resolve_35 (lv_at hl 0 rfl) ?_
      refine lv_if_ne (tgt := 43) C.1.1 C.1.2.1 d_LL_resolve_37 (by decide) (fun c21 => ?_) (fun c21 => ?_)
      · rw [if_neg c21] at hf
        refine hq_aload_n C.1.1 C.1.2.1 d_LL_resolve_43 rfl (lv_at hl 3 rfl) ?_
        refine lv_iconst (v := -1) C.1.1 C.1.2.1 d_LL_resolve_44 (by decide) ?_
        replace hf := Option.bind_eq_some_iff.mp hf
        obtain ⟨h22, e23, hf⟩ := hf
        refine hq_put C I F_LL_36 e23 rfl rfl d_LL_resolve_45 (fun H locs I => ?_)
        refine hq_aload_n C.1.1 C.1.2.1 d_LL_resolve_48 rfl (lv_at hl 3 rfl) ?_
        refine lv_lload_n C.1.1 C.1.2.1 d_LL_resolve_49 rfl (lv_at hl 2 rfl) ?_
        refine hq_aload_n C.1.1 C.1.2.1 d_LL_resolve_50 rfl (lv_at hl 1 rfl) ?_
        replace hf := Option.bind_eq_some_iff.mp hf
        obtain ⟨b26, e27, hf⟩ := hf
        obtain ⟨e27r, _, e27c⟩ := hp_o_inv e27
        cases e27r
        replace hf := Option.bind_eq_some_iff.mp hf
        obtain ⟨q24, e25, hf⟩ := hf
        refine hq_callW gt_good C I hl.1 (k_LL_pickFor l G B _ t0 q3.1 q9.1 q24 e25) M_LL_71 e27c rfl ⟨rfl, rfl⟩ ⟨Nat.le_of_ble_eq_true rfl, Nat.le_of_ble_eq_true rfl⟩ rfl (Nat.le_of_ble_eq_true rfl) d_LL_resolve_51 ⟨Nat.le_of_ble_eq_true rfl, Nat.le_of_ble_eq_true rfl⟩ (fun H locs I => ?_)
        refine W.widen (k := 5) (n := 31) (by decide) (by decide) ?_
        refine hq_astore (r := q24.1) (i := 5) (lv' := [(5, va_rf q24.1), (4, .int q15.1), (3, va_rf q9.1), (1, .long q3.1), (0, va_rf (some t0))]) C.1.1 C.1.2.1 d_LL_resolve_54 hl (by decide) (by first | rfl | simp [hq_cat, hq_catI, hq_catL]) (fun ls hl => ?_)
        refine hq_aload C.1.1 C.1.2.1 d_LL_resolve_56 (lv_at hl 0 rfl) ?_
        refine hq_ifnonnull (tgt := 64) C.1.1 C.1.2.1 d_LL_resolve_58 (by decide) (fun c28 => ?_) (fun c28 => ?_)
        · rw [if_neg c28] at hf
          refine hq_aload_n C.1.1 C.1.2.1 d_LL_resolve_64 rfl (lv_at hl 4 rfl) ?_
          refine hq_aload C.1.1 C.1.2.1 d_LL_resolve_65 (lv_at hl 0 rfl) ?_
          replace hf := Option.bind_eq_some_iff.mp hf
          obtain ⟨b31, e32, hf⟩ := hf
          obtain ⟨e32r, _, e32c⟩ := hp_o_inv e32
          cases e32r
          replace hf := Option.bind_eq_some_iff.mp hf
          obtain ⟨q29, e30, hf⟩ := hf
          refine hq_callW gt_good C I hl.1 (k_LL_fillDraft l G B _ t0 q24.1 q29 e30) M_LL_134 e32c rfl ⟨rfl, rfl⟩ ⟨Nat.le_of_ble_eq_true rfl, Nat.le_of_ble_eq_true rfl⟩ rfl (Nat.le_of_ble_eq_true rfl) d_LL_resolve_67 ⟨Nat.le_of_ble_eq_true rfl, Nat.le_of_ble_eq_true rfl⟩ (fun H locs I => ?_)
          refine W.widen (k := 5) (n := 31) (by decide) (by decide) ?_
          refine lv_istore (i := 6) (lv' := [(6, .int q29.1), (5, va_rf q24.1), (4, .int q15.1), (3, va_rf q9.1), (1, .long q3.1), (0, va_rf (some t0))]) C.1.1 C.1.2.1 d_LL_resolve_70 hl (by decide) (by first | rfl | simp [hq_cat, hq_catI, hq_catL]) (fun ls hl => ?_)
          refine lv_iload C.1.1 C.1.2.1 d_LL_resolve_72 (lv_at hl 0 rfl) ?_
          refine lv_if_eq (tgt := 80) C.1.1 C.1.2.1 d_LL_resolve_74 (by decide) (fun c33 => ?_) (fun c33 => ?_)
          · rw [if_pos c33] at hf
            refine hq_aload_n C.1.1 C.1.2.1 d_LL_resolve_80 rfl (lv_at hl 5 rfl) ?_
            replace hf := Option.bind_eq_some_iff.mp hf
            obtain ⟨x34, e35, hf⟩ := hf
            refine hq_getR C I F_LL_29 e35 d_LL_resolve_81 ?_
            refine hq_astore (r := x34) (i := 7) (lv' := [(7, va_rf x34), (6, .int q29.1), (5, va_rf q24.1), (4, .int q15.1), (3, va_rf q9.1), (1, .long q3.1), (0, va_rf (some t0))]) C.1.1 C.1.2.1 d_LL_resolve_84 hl (by decide) (by first | rfl | simp [hq_cat, hq_catI, hq_catL]) (fun ls hl => ?_)
            refine hq_aload_n C.1.1 C.1.2.1 d_LL_resolve_86 rfl (lv_at hl 6 rfl) ?_
            refine hq_aload_n C.1.1 C.1.2.1 d_LL_resolve_87 rfl (lv_at hl 6 rfl) ?_
            replace hf := Option.bind_eq_some_iff.mp hf
            obtain ⟨x36, e37, hf⟩ := hf
            refine hq_getR C I F_LL_33 e37 d_LL_resolve_88 ?_
            replace hf := Option.bind_eq_some_iff.mp hf
            obtain ⟨h38, e39, hf⟩ := hf
            refine hq_put C I F_LL_29 e39 (hq_rff _ _).1 (hq_rff _ _).2 d_LL_resolve_91 (fun H locs I => ?_)
            refine hq_aload_n C.1.1 C.1.2.1 d_LL_resolve_94 rfl (lv_at hl 6 rfl) ?_
            refine hq_aload C.1.1 C.1.2.1 d_LL_resolve_95 (lv_at hl 0 rfl) ?_
            replace hf := Option.bind_eq_some_iff.mp hf
            obtain ⟨h40, e41, hf⟩ := hf
            refine hq_put C I F_LL_33 e41 (hq_rff _ _).1 (hq_rff _ _).2 d_LL_resolve_97 (fun H locs I => ?_)
            refine hq_aload_n C.1.1 C.1.2.1 d_LL_resolve_100 rfl (lv_at hl 6 rfl) ?_
            replace hf := Option.bind_eq_some_iff.mp hf
            obtain ⟨x42, e43, hf⟩ := hf
            refine hq_getR C I F_LL_29 e43 d_LL_resolve_101 ?_
            replace hf := Option.bind_eq_some_iff.mp hf
            obtain ⟨x44, e45, hf⟩ := hf
            refine hq_getI C I F_LL_138 e45 d_LL_resolve_104 ?_
            cases hf
            exact hq_iret C I (by decide) (by decide) d_LL_resolve_107
          · rw [if_neg c33] at hf
            refine lv_iload C.1.1 C.1.2.1 d_LL_resolve_77 (lv_at hl 0 rfl) ?_
            cases hf
            exact hq_iret C I (by decide) (by decide) d_LL_resolve_79
        · rw [if_pos c28] at hf
          refine lv_bipush (v := -4) C.1.1 C.1.2.1 d_LL_resolve_61 (by decide) ?_
          cases hf
          exact hq_iret C I (by decide) (by decide) d_LL_resolve_63
      · rw [if_pos c21] at hf
        refine lv_bipush (v := -3) C.1.1 C.1.2.1 d_LL_resolve_40 (by decide) ?_
        cases hf
        exact hq_iret C I (by decide) (by decide) d_LL_resolve_42
set_option maxRecDepth 100000 in
set_option maxHeartbeats 4000000 in
theorem k_LL_culprit (l : Launch) (G : hp_G) (B : Nat) (h : hp_H) (t0 : Nat) (out : Int32 × hp_H) (hf : f_LL_culprit h t0 = some out) : Met l y_LL_culprit (.code y_LL_culprit b_LL_culprit 1 ((Option.some Jvm.ClassFile.FieldType.int)) :: gt) ({ frames := 0, cells := 0, slots := 0, locals := 0 }) (hq_Pc G vwCl aTs B h [.ref t0]) (hq_Q G vwCl B (some (.int out.1)) out.2) 0 0 (fun q => B ≤ q) := by
  refine hq_enter (nL := 1) (by decide +kernel) (Nat.le_of_ble_eq_true rfl) ?_
  intro p e s m args below meth c C I ls hl
  have hl : lv_has ls 1 [(0, va_rf (some t0))] := hl
  unfold f_LL_culprit at hf
  refine hq_aload_n C.1.1 C.1.2.1 d_LL_culprit_0 rfl (lv_at hl 0 rfl) ?_
  replace hf := Option.bind_eq_some_iff.mp hf
  obtain ⟨x1, e2, hf⟩ := hf
  refine hq_getI C I F_LL_36 e2 d_LL_culprit_1 ?_
  cases hf
  exact hq_iret C I (by decide) (by decide) d_LL_culprit_4
set_option maxRecDepth 100000 in
set_option maxHeartbeats 4000000 in
theorem k_EL_has (l : Launch) (G : hp_G) (B : Nat) (h : hp_H) (t0 : Nat) (p1 : Int32) (out : Int32 × hp_H) (hf : f_EL_has h t0 p1 = some out) : Met l y_EL_has (.code y_EL_has b_EL_has 2 ((Option.some Jvm.ClassFile.FieldType.boolean)) :: gt) ({ frames := 0, cells := 0, slots := 0, locals := 0 }) (hq_Pc G vwCl aTs B h [.ref t0, .int p1]) (hq_Q G vwCl B (some (.int out.1)) out.2) 0 0 (fun q => B ≤ q) := by
  refine hq_enter (nL := 2) (by decide +kernel) (Nat.le_of_ble_eq_true rfl) ?_
  intro p e s m args below meth c C I ls hl
  have hl : lv_has ls 2 [(0, va_rf (some t0)), (1, .int p1)] := hl
  unfold f_EL_has at hf
  refine lv_iload_n C.1.1 C.1.2.1 d_EL_has_0 rfl (lv_at hl 1 rfl) ?_
  refine lv_if_lt (tgt := 16) C.1.1 C.1.2.1 d_EL_has_1 (by decide) (fun c1 => ?_) (fun c1 => ?_)
  · rw [if_pos c1] at hf
    refine lv_iconst (v := 0) C.1.1 C.1.2.1 d_EL_has_16 (by decide) ?_
    cases hf
    exact hq_zret C I (hp_z_nar (x := 0) (Or.inl rfl)).1 (by decide) (by decide) d_EL_has_17
  · rw [if_neg c1] at hf
    refine lv_iload_n C.1.1 C.1.2.1 d_EL_has_4 rfl (lv_at hl 1 rfl) ?_
    refine hq_aload_n C.1.1 C.1.2.1 d_EL_has_5 rfl (lv_at hl 0 rfl) ?_
    replace hf := Option.bind_eq_some_iff.mp hf
    obtain ⟨x2, e3, hf⟩ := hf
    refine hq_getI C I F_EL_30 e3 d_EL_has_6 ?_
    refine lv_icmp_ge (tgt := 16) C.1.1 C.1.2.1 d_EL_has_9 (by decide) (fun c4 => ?_) (fun c4 => ?_)
    · rw [if_pos c4] at hf
      refine lv_iconst (v := 0) C.1.1 C.1.2.1 d_EL_has_16 (by decide) ?_
      cases hf
      exact hq_zret C I (hp_z_nar (x := 0) (Or.inl rfl)).1 (by decide) (by decide) d_EL_has_17
    · rw [if_neg c4] at hf
      refine lv_iconst (v := 1) C.1.1 C.1.2.1 d_EL_has_12 (by decide) ?_
      refine lv_goto (tgt := 17) C.1.1 C.1.2.1 d_EL_has_13 (by decide) ?_
      cases hf
      exact hq_zret C I (hp_z_nar (x := 1) (Or.inr rfl)).1 (by decide) (by decide) d_EL_has_17
set_option maxRecDepth 100000 in
set_option maxHeartbeats 4000000 in
theorem k_LL_entry (l : Launch) (G : hp_G) (B : Nat) (h : hp_H) (t0 : Nat) (p1 : Int32) (out : Int32 × hp_H) (hf : f_LL_entry h t0 p1 = some out) : Met l y_LL_entry (.code y_LL_entry b_LL_entry 2 ((Option.some Jvm.ClassFile.FieldType.int)) :: gt) ({ frames := 1, cells := 0, slots := 0, locals := 21 }) (hq_Pc G vwCl aTs B h [.ref t0, .int p1]) (hq_Q G vwCl B (some (.int out.1)) out.2) 0 0 (fun q => B ≤ q) := by
  refine hq_enter (nL := 2) (by decide +kernel) (Nat.le_of_ble_eq_true rfl) ?_
  intro p e s m args below meth c C I ls hl
  have hl : lv_has ls 2 [(0, va_rf (some t0)), (1, .int p1)] := hl
  unfold f_LL_entry at hf
  refine hq_aload_n C.1.1 C.1.2.1 d_LL_entry_0 rfl (lv_at hl 0 rfl) ?_
  replace hf := Option.bind_eq_some_iff.mp hf
  obtain ⟨x1, e2, hf⟩ := hf
  refine hq_getR C I F_LL_29 e2 d_LL_entry_1 ?_
  refine lv_iload_n C.1.1 C.1.2.1 d_LL_entry_4 rfl (lv_at hl 1 rfl) ?_
  replace hf := Option.bind_eq_some_iff.mp hf
  obtain ⟨b5, e6, hf⟩ := hf
  obtain ⟨e6r, _, e6c⟩ := hp_o_inv e6
  replace hf := Option.bind_eq_some_iff.mp hf
  obtain ⟨q3, e4, hf⟩ := hf
  refine hq_callW gt_good C I hl.1 (k_EL_has l G B _ b5 p1 q3 e4) M_LL_141 e6c e6r ⟨rfl, rfl⟩ ⟨Nat.le_of_ble_eq_true rfl, Nat.le_of_ble_eq_true rfl⟩ rfl (Nat.le_of_ble_eq_true rfl) d_LL_entry_5 ⟨Nat.le_of_ble_eq_true rfl, Nat.le_of_ble_eq_true rfl⟩ (fun H locs I => ?_)
  refine W.widen (k := 0) (n := 0) (by decide) (by decide) ?_
  refine lv_if_eq (tgt := 26) C.1.1 C.1.2.1 d_LL_entry_8 (by decide) (fun c7 => ?_) (fun c7 => ?_)
  · rw [if_pos c7] at hf
    refine lv_iconst (v := -1) C.1.1 C.1.2.1 d_LL_entry_26 (by decide) ?_
    cases hf
    exact hq_iret C I (by decide) (by decide) d_LL_entry_27
  · rw [if_neg c7] at hf
    refine hq_aload_n C.1.1 C.1.2.1 d_LL_entry_11 rfl (lv_at hl 0 rfl) ?_
    replace hf := Option.bind_eq_some_iff.mp hf
    obtain ⟨x8, e9, hf⟩ := hf
    refine hq_getR C I F_LL_29 e9 d_LL_entry_12 ?_
    replace hf := Option.bind_eq_some_iff.mp hf
    obtain ⟨x10, e11, hf⟩ := hf
    refine hq_getR C I F_LL_144 e11 d_LL_entry_15 ?_
    refine lv_iload_n C.1.1 C.1.2.1 d_LL_entry_18 rfl (lv_at hl 1 rfl) ?_
    replace hf := Option.bind_eq_some_iff.mp hf
    obtain ⟨x12, e13, hf⟩ := hf
    refine hq_aald C I (t := 4) rfl e13 d_LL_entry_19 ?_
    replace hf := Option.bind_eq_some_iff.mp hf
    obtain ⟨x14, e15, hf⟩ := hf
    refine hq_getI C I F_LL_145 e15 d_LL_entry_20 ?_
    refine lv_goto (tgt := 27) C.1.1 C.1.2.1 d_LL_entry_23 (by decide) ?_
    cases hf
    exact hq_iret C I (by decide) (by decide) d_LL_entry_27
set_option maxRecDepth 100000 in
set_option maxHeartbeats 4000000 in
theorem k_LL_depth (l : Launch) (G : hp_G) (B : Nat) (h : hp_H) (t0 : Nat) (p1 : Int32) (out : Int32 × hp_H) (hf : f_LL_depth h t0 p1 = some out) : Met l y_LL_depth (.code y_LL_depth b_LL_depth 2 ((Option.some Jvm.ClassFile.FieldType.int)) :: gt) ({ frames := 1, cells := 0, slots := 0, locals := 21 }) (hq_Pc G vwCl aTs B h [.ref t0, .int p1]) (hq_Q G vwCl B (some (.int out.1)) out.2) 0 0 (fun q => B ≤ q) := by
  refine hq_enter (nL := 2) (by decide +kernel) (Nat.le_of_ble_eq_true rfl) ?_
  intro p e s m args below meth c C I ls hl
  have hl : lv_has ls 2 [(0, va_rf (some t0)), (1, .int p1)] := hl
  unfold f_LL_depth at hf
  refine hq_aload_n C.1.1 C.1.2.1 d_LL_depth_0 rfl (lv_at hl 0 rfl) ?_
  replace hf := Option.bind_eq_some_iff.mp hf
  obtain ⟨x1, e2, hf⟩ := hf
  refine hq_getR C I F_LL_29 e2 d_LL_depth_1 ?_
  refine lv_iload_n C.1.1 C.1.2.1 d_LL_depth_4 rfl (lv_at hl 1 rfl) ?_
  replace hf := Option.bind_eq_some_iff.mp hf
  obtain ⟨b5, e6, hf⟩ := hf
  obtain ⟨e6r, _, e6c⟩ := hp_o_inv e6
  replace hf := Option.bind_eq_some_iff.mp hf
  obtain ⟨q3, e4, hf⟩ := hf
  refine hq_callW gt_good C I hl.1 (k_EL_has l G B _ b5 p1 q3 e4) M_LL_141 e6c e6r ⟨rfl, rfl⟩ ⟨Nat.le_of_ble_eq_true rfl, Nat.le_of_ble_eq_true rfl⟩ rfl (Nat.le_of_ble_eq_true rfl) d_LL_depth_5 ⟨Nat.le_of_ble_eq_true rfl, Nat.le_of_ble_eq_true rfl⟩ (fun H locs I => ?_)
  refine W.widen (k := 0) (n := 0) (by decide) (by decide) ?_
  refine lv_if_eq (tgt := 23) C.1.1 C.1.2.1 d_LL_depth_8 (by decide) (fun c7 => ?_) (fun c7 => ?_)
  · rw [if_pos c7] at hf
    refine lv_iconst (v := -1) C.1.1 C.1.2.1 d_LL_depth_23 (by decide) ?_
    cases hf
    exact hq_iret C I (by decide) (by decide) d_LL_depth_24
  · rw [if_neg c7] at hf
    refine hq_aload_n C.1.1 C.1.2.1 d_LL_depth_11 rfl (lv_at hl 0 rfl) ?_
    replace hf := Option.bind_eq_some_iff.mp hf
    obtain ⟨x8, e9, hf⟩ := hf
    refine hq_getR C I F_LL_29 e9 d_LL_depth_12 ?_
    replace hf := Option.bind_eq_some_iff.mp hf
    obtain ⟨x10, e11, hf⟩ := hf
    refine hq_getR C I F_LL_148 e11 d_LL_depth_15 ?_
    refine lv_iload_n C.1.1 C.1.2.1 d_LL_depth_18 rfl (lv_at hl 1 rfl) ?_
    replace hf := Option.bind_eq_some_iff.mp hf
    obtain ⟨x12, e13, hf⟩ := hf
    refine hq_iald C I (t := 0) rfl e13 d_LL_depth_19 ?_
    refine lv_goto (tgt := 24) C.1.1 C.1.2.1 d_LL_depth_20 (by decide) ?_
    cases hf
    exact hq_iret C I (by decide) (by decide) d_LL_depth_24
set_option maxRecDepth 100000 in
set_option maxHeartbeats 4000000 in
theorem k_LL_parent (l : Launch) (G : hp_G) (B : Nat) (h : hp_H) (t0 : Nat) (p1 : Int32) (out : Int32 × hp_H) (hf : f_LL_parent h t0 p1 = some out) : Met l y_LL_parent (.code y_LL_parent b_LL_parent 2 ((Option.some Jvm.ClassFile.FieldType.int)) :: gt) ({ frames := 1, cells := 0, slots := 0, locals := 21 }) (hq_Pc G vwCl aTs B h [.ref t0, .int p1]) (hq_Q G vwCl B (some (.int out.1)) out.2) 0 0 (fun q => B ≤ q) := by
  refine hq_enter (nL := 2) (by decide +kernel) (Nat.le_of_ble_eq_true rfl) ?_
  intro p e s m args below meth c C I ls hl
  have hl : lv_has ls 2 [(0, va_rf (some t0)), (1, .int p1)] := hl
  unfold f_LL_parent at hf
  refine lv_iload_n C.1.1 C.1.2.1 d_LL_parent_0 rfl (lv_at hl 1 rfl) ?_
  refine lv_if_eq (tgt := 27) C.1.1 C.1.2.1 d_LL_parent_1 (by decide) (fun c1 => ?_) (fun c1 => ?_)
  · rw [if_pos c1] at hf
    refine lv_iconst (v := -1) C.1.1 C.1.2.1 d_LL_parent_27 (by decide) ?_
    cases hf
    exact hq_iret C I (by decide) (by decide) d_LL_parent_28
  · rw [if_neg c1] at hf
    refine hq_aload_n C.1.1 C.1.2.1 d_LL_parent_4 rfl (lv_at hl 0 rfl) ?_
    replace hf := Option.bind_eq_some_iff.mp hf
    obtain ⟨x2, e3, hf⟩ := hf
    refine hq_getR C I F_LL_29 e3 d_LL_parent_5 ?_
    refine lv_iload_n C.1.1 C.1.2.1 d_LL_parent_8 rfl (lv_at hl 1 rfl) ?_
    replace hf := Option.bind_eq_some_iff.mp hf
    obtain ⟨b6, e7, hf⟩ := hf
    obtain ⟨e7r, _, e7c⟩ := hp_o_inv e7
    replace hf := Option.bind_eq_some_iff.mp hf
    obtain ⟨q4, e5, hf⟩ := hf
    refine hq_callW gt_good C I hl.1 (k_EL_has l G B _ b6 p1 q4 e5) M_LL_141 e7c e7r ⟨rfl, rfl⟩ ⟨Nat.le_of_ble_eq_true rfl, Nat.le_of_ble_eq_true rfl⟩ rfl (Nat.le_of_ble_eq_true rfl) d_LL_parent_9 ⟨Nat.le_of_ble_eq_true rfl, Nat.le_of_ble_eq_true rfl⟩ (fun H locs I => ?_)
    refine W.widen (k := 0) (n := 0) (by decide) (by decide) ?_
    refine lv_if_eq (tgt := 27) C.1.1 C.1.2.1 d_LL_parent_12 (by decide) (fun c8 => ?_) (fun c8 => ?_)
    · rw [if_pos c8] at hf
      refine lv_iconst (v := -1) C.1.1 C.1.2.1 d_LL_parent_27 (by decide) ?_
      cases hf
      exact hq_iret C I (by decide) (by decide) d_LL_parent_28
    · rw [if_neg c8] at hf
      refine hq_aload_n C.1.1 C.1.2.1 d_LL_parent_15 rfl (lv_at hl 0 rfl) ?_
      replace hf := Option.bind_eq_some_iff.mp hf
      obtain ⟨x9, e10, hf⟩ := hf
      refine hq_getR C I F_LL_29 e10 d_LL_parent_16 ?_
      replace hf := Option.bind_eq_some_iff.mp hf
      obtain ⟨x11, e12, hf⟩ := hf
      refine hq_getR C I F_LL_152 e12 d_LL_parent_19 ?_
      refine lv_iload_n C.1.1 C.1.2.1 d_LL_parent_22 rfl (lv_at hl 1 rfl) ?_
      replace hf := Option.bind_eq_some_iff.mp hf
      obtain ⟨x13, e14, hf⟩ := hf
      refine hq_iald C I (t := 0) rfl e14 d_LL_parent_23 ?_
      refine lv_goto (tgt := 28) C.1.1 C.1.2.1 d_LL_parent_24 (by decide) ?_
      cases hf
      exact hq_iret C I (by decide) (by decide) d_LL_parent_28
