set_option maxRecDepth 100000 in
set_option maxHeartbeats 4000000 in
theorem k_LN_takeRange_L53 {p : Program} {l : Launch} {e : Env} {s : State} {m : MethodId} {args : Array Value} {below : List Frame} {meth : Method} {c : Code} {G : hp_G} {B : Nat} (C : hq_C p s m args meth c b_LN_takeRange 4 ((Option.some (Jvm.ClassFile.FieldType.object "LayeredLauncher$Range"))) "LayeredLauncher$Line" "takeRange" gt G vwCl aTs) : ∀ (t0 : Nat) (y1 : Int32) (y2 : Int32) (h : hp_H) (out : Option Nat × hp_H), f_LN_takeRange_L53 t0 y1 y2 h = some out → ∀ (H : Heap) (locs : List Loc), hp_I G vwCl B s.heap h H locs → ∀ ls : Array Slot, lv_has ls 4 [(0, va_rf (some t0)), (1, .int y1), (2, .int y2)] → W p l e ({ frames := 4, cells := 5, slots := 31, locals := 94 }) s m args below meth c H locs 0 0 (MQ below (hq_Q G vwCl B (some (va_rf out.1)) out.2) args s 5 31 (fun q => B ≤ q)) (F0 m 53 ls []) := by
  intro t0 y1 y2 h out hf H locs I ls hl
  unfold f_LN_takeRange_L53 at hf
  refine lv_null C.1.1 C.1.2.1 d_LN_takeRange_53 ?_
  refine hq_astore_n (r := none) (i := 3) (lv' := [(3, va_rf none), (0, va_rf (some t0)), (1, .int y1), (2, .int y2)]) C.1.1 C.1.2.1 d_LN_takeRange_54 rfl hl (by decide) (by first | rfl | simp [hq_cat, hq_catI, hq_catL]) (fun ls hl => ?_)
  refine hq_aload_n C.1.1 C.1.2.1 d_LN_takeRange_55 rfl (lv_at hl 1 rfl) ?_
  refine lv_bipush (v := 44) C.1.1 C.1.2.1 d_LN_takeRange_56 (by decide) ?_
  replace hf := Option.bind_eq_some_iff.mp hf
  obtain ⟨b22, e23, hf⟩ := hf
  obtain ⟨e23r, _, e23c⟩ := hp_o_inv e23
  cases e23r
  replace hf := Option.bind_eq_some_iff.mp hf
  obtain ⟨q20, e21, hf⟩ := hf
  refine hq_callW gt_good C I hl.1 (k_LN_standsAt l G B _ t0 (44 : Int32) q20 e21) M_LN_31 e23c rfl ⟨rfl, rfl⟩ ⟨Nat.le_of_ble_eq_true rfl, Nat.le_of_ble_eq_true rfl⟩ rfl (Nat.le_of_ble_eq_true rfl) d_LN_takeRange_58 ⟨Nat.le_of_ble_eq_true rfl, Nat.le_of_ble_eq_true rfl⟩ (fun H locs I => ?_)
  refine W.widen (k := 0) (n := 0) (by decide) (by decide) ?_
  refine lv_if_ne (tgt := 94) C.1.1 C.1.2.1 d_LN_takeRange_61 (by decide) (fun c24 => ?_) (fun c24 => ?_)
  · rw [if_neg c24] at hf
    refine hq_aload_n C.1.1 C.1.2.1 d_LN_takeRange_94 rfl (lv_at hl 1 rfl) ?_
    refine lv_bipush (v := 44) C.1.1 C.1.2.1 d_LN_takeRange_95 (by decide) ?_
    replace hf := Option.bind_eq_some_iff.mp hf
    obtain ⟨b27, e28, hf⟩ := hf
    obtain ⟨e28r, _, e28c⟩ := hp_o_inv e28
    cases e28r
    replace hf := Option.bind_eq_some_iff.mp hf
    obtain ⟨q25, e26, hf⟩ := hf
    refine hq_callW gt_good C I hl.1 (k_LN_take l G B _ t0 (44 : Int32) q25 e26) M_LN_54 e28c rfl ⟨rfl, rfl⟩ ⟨Nat.le_of_ble_eq_true rfl, Nat.le_of_ble_eq_true rfl⟩ rfl (Nat.le_of_ble_eq_true rfl) d_LN_takeRange_97 ⟨Nat.le_of_ble_eq_true rfl, Nat.le_of_ble_eq_true rfl⟩ (fun H locs I => ?_)
    refine W.widen (k := 0) (n := 0) (by decide) (by decide) ?_
    refine lv_if_eq (tgt := 112) C.1.1 C.1.2.1 d_LN_takeRange_100 (by decide) (fun c29 => ?_) (fun c29 => ?_)
    · rw [if_pos c29] at hf
      refine lv_null C.1.1 C.1.2.1 d_LN_takeRange_112 ?_
      cases hf
      exact hq_aret C I (Or.inl ⟨_, rfl⟩) (by decide) (by decide) d_LN_takeRange_113
    · rw [if_neg c29] at hf
      refine hq_aload_n C.1.1 C.1.2.1 d_LN_takeRange_103 rfl (lv_at hl 1 rfl) ?_
      refine hq_aload_n C.1.1 C.1.2.1 d_LN_takeRange_104 rfl (lv_at hl 0 rfl) ?_
      refine lv_iload_n C.1.1 C.1.2.1 d_LN_takeRange_105 rfl (lv_at hl 3 rfl) ?_
      replace hf := Option.bind_eq_some_iff.mp hf
      obtain ⟨b32, e33, hf⟩ := hf
      obtain ⟨e33r, _, e33c⟩ := hp_o_inv e33
      cases e33r
      replace hf := Option.bind_eq_some_iff.mp hf
      obtain ⟨q30, e31, hf⟩ := hf
      refine hq_callW gt_good C I hl.1 (k_LN_takeRestOfRange l G B _ t0 none y2 q30 e31) M_LN_79 e33c rfl ⟨rfl, rfl⟩ ⟨Nat.le_of_ble_eq_true rfl, Nat.le_of_ble_eq_true rfl⟩ rfl (Nat.le_of_ble_eq_true rfl) d_LN_takeRange_106 ⟨Nat.le_of_ble_eq_true rfl, Nat.le_of_ble_eq_true rfl⟩ (fun H locs I => ?_)
      refine W.widen (k := 3) (n := 18) (by decide) (by decide) ?_
      refine lv_goto (tgt := 113) C.1.1 C.1.2.1 d_LN_takeRange_109 (by decide) ?_
      cases hf
      exact hq_aret C I (Or.inl ⟨_, rfl⟩) (by decide) (by decide) d_LN_takeRange_113
  · rw [if_pos c24] at hf
    refine hq_aload_n C.1.1 C.1.2.1 d_LN_takeRange_64 rfl (lv_at hl 1 rfl) ?_
    replace hf := Option.bind_eq_some_iff.mp hf
    obtain ⟨b36, e37, hf⟩ := hf
    obtain ⟨e37r, _, e37c⟩ := hp_o_inv e37
    cases e37r
    replace hf := Option.bind_eq_some_iff.mp hf
    obtain ⟨q34, e35, hf⟩ := hf
    refine hq_callW gt_good C I hl.1 (k_LN_takeVersion l G B _ t0 q34 e35) M_LN_69 e37c rfl ⟨rfl, rfl⟩ ⟨Nat.le_of_ble_eq_true rfl, Nat.le_of_ble_eq_true rfl⟩ rfl (Nat.le_of_ble_eq_true rfl) d_LN_takeRange_65 ⟨Nat.le_of_ble_eq_true rfl, Nat.le_of_ble_eq_true rfl⟩ (fun H locs I => ?_)
    refine W.widen (k := 2) (n := 13) (by decide) (by decide) ?_
    refine hq_astore_n (r := q34.1) (i := 3) (lv' := [(3, va_rf q34.1), (0, va_rf (some t0)), (1, .int y1), (2, .int y2)]) C.1.1 C.1.2.1 d_LN_takeRange_68 rfl hl (by decide) (by first | rfl | simp [hq_cat, hq_catI, hq_catL]) (fun ls hl => ?_)
    refine hq_aload_n C.1.1 C.1.2.1 d_LN_takeRange_69 rfl (lv_at hl 0 rfl) ?_
    refine hq_ifnonnull (tgt := 75) C.1.1 C.1.2.1 d_LN_takeRange_70 (by decide) (fun c38 => ?_) (fun c38 => ?_)
    · rw [if_neg c38] at hf
      refine lv_iload_n C.1.1 C.1.2.1 d_LN_takeRange_75 rfl (lv_at hl 2 rfl) ?_
      refine lv_if_eq (tgt := 94) C.1.1 C.1.2.1 d_LN_takeRange_76 (by decide) (fun c39 => ?_) (fun c39 => ?_)
      · rw [if_pos c39] at hf
        refine hq_aload_n C.1.1 C.1.2.1 d_LN_takeRange_94 rfl (lv_at hl 1 rfl) ?_
        refine lv_bipush (v := 44) C.1.1 C.1.2.1 d_LN_takeRange_95 (by decide) ?_
        replace hf := Option.bind_eq_some_iff.mp hf
        obtain ⟨b42, e43, hf⟩ := hf
        obtain ⟨e43r, _, e43c⟩ := hp_o_inv e43
        cases e43r
        replace hf := Option.bind_eq_some_iff.mp hf
        obtain ⟨q40, e41, hf⟩ := hf
        refine hq_callW gt_good C I hl.1 (k_LN_take l G B _ t0 (44 : Int32) q40 e41) M_LN_54 e43c rfl ⟨rfl, rfl⟩ ⟨Nat.le_of_ble_eq_true rfl, Nat.le_of_ble_eq_true rfl⟩ rfl (Nat.le_of_ble_eq_true rfl) d_LN_takeRange_97 ⟨Nat.le_of_ble_eq_true rfl, Nat.le_of_ble_eq_true rfl⟩ (fun H locs I => ?_)
        refine W.widen (k := 2) (n := 13) (by decide) (by decide) ?_
        refine lv_if_eq (tgt := 112) C.1.1 C.1.2.1 d_LN_takeRange_100 (by decide) (fun c44 => ?_) (fun c44 => ?_)
        · rw [if_pos c44] at hf
          refine lv_null C.1.1 C.1.2.1 d_LN_takeRange_112 ?_
          cases hf
          exact hq_aret C I (Or.inl ⟨_, rfl⟩) (by decide) (by decide) d_LN_takeRange_113
        · rw [if_neg c44] at hf
          refine hq_aload_n C.1.1 C.1.2.1 d_LN_takeRange_103 rfl (lv_at hl 1 rfl) ?_
          refine hq_aload_n C.1.1 C.1.2.1 d_LN_takeRange_104 rfl (lv_at hl 0 rfl) ?_
          refine lv_iload_n C.1.1 C.1.2.1 d_LN_takeRange_105 rfl (lv_at hl 3 rfl) ?_
          replace hf := Option.bind_eq_some_iff.mp hf
          obtain ⟨b47, e48, hf⟩ := hf
          obtain ⟨e48r, _, e48c⟩ := hp_o_inv e48
          cases e48r
          replace hf := Option.bind_eq_some_iff.mp hf
          obtain ⟨q45, e46, hf⟩ := hf
          refine hq_callW gt_good C I hl.1 (k_LN_takeRestOfRange l G B _ t0 q34.1 y2 q45 e46) M_LN_79 e48c rfl ⟨rfl, rfl⟩ ⟨Nat.le_of_ble_eq_true rfl, Nat.le_of_ble_eq_true rfl⟩ rfl (Nat.le_of_ble_eq_true rfl) d_LN_takeRange_106 ⟨Nat.le_of_ble_eq_true rfl, Nat.le_of_ble_eq_true rfl⟩ (fun H locs I => ?_)
          refine W.widen (k := 5) (n := 31) (by decide) (by decide) ?_
          refine lv_goto (tgt := 113) C.1.1 C.1.2.1 d_LN_takeRange_109 (by decide) ?_
          cases hf
          exact hq_aret C I (Or.inl ⟨_, rfl⟩) (by decide) (by decide) d_LN_takeRange_113
      · rw [if_neg c39] at hf
        refine hq_aload_n C.1.1 C.1.2.1 d_LN_takeRange_79 rfl (lv_at hl 1 rfl) ?_
        refine lv_bipush (v := 93) C.1.1 C.1.2.1 d_LN_takeRange_80 (by decide) ?_
        replace hf := Option.bind_eq_some_iff.mp hf
        obtain ⟨b51, e52, hf⟩ := hf
        obtain ⟨e52r, _, e52c⟩ := hp_o_inv e52
        cases e52r
        replace hf := Option.bind_eq_some_iff.mp hf
        obtain ⟨q49, e50, hf⟩ := hf
        refine hq_callW gt_good C I hl.1 (k_LN_take l G B _ t0 (93 : Int32) q49 e50) M_LN_54 e52c rfl ⟨rfl, rfl⟩ ⟨Nat.le_of_ble_eq_true rfl, Nat.le_of_ble_eq_true rfl⟩ rfl (Nat.le_of_ble_eq_true rfl) d_LN_takeRange_82 ⟨Nat.le_of_ble_eq_true rfl, Nat.le_of_ble_eq_true rfl⟩ (fun H locs I => ?_)
        refine W.widen (k := 2) (n := 13) (by decide) (by decide) ?_
        refine lv_if_eq (tgt := 94) C.1.1 C.1.2.1 d_LN_takeRange_85 (by decide) (fun c53 => ?_) (fun c53 => ?_)
        · rw [if_pos c53] at hf
          refine hq_aload_n C.1.1 C.1.2.1 d_LN_takeRange_94 rfl (lv_at hl 1 rfl) ?_
          refine lv_bipush (v := 44) C.1.1 C.1.2.1 d_LN_takeRange_95 (by decide) ?_
          replace hf := Option.bind_eq_some_iff.mp hf
          obtain ⟨b56, e57, hf⟩ := hf
          obtain ⟨e57r, _, e57c⟩ := hp_o_inv e57
          cases e57r
          replace hf := Option.bind_eq_some_iff.mp hf
          obtain ⟨q54, e55, hf⟩ := hf
          refine hq_callW gt_good C I hl.1 (k_LN_take l G B _ t0 (44 : Int32) q54 e55) M_LN_54 e57c rfl ⟨rfl, rfl⟩ ⟨Nat.le_of_ble_eq_true rfl, Nat.le_of_ble_eq_true rfl⟩ rfl (Nat.le_of_ble_eq_true rfl) d_LN_takeRange_97 ⟨Nat.le_of_ble_eq_true rfl, Nat.le_of_ble_eq_true rfl⟩ (fun H locs I => ?_)
          refine W.widen (k := 2) (n := 13) (by decide) (by decide) ?_
          refine lv_if_eq (tgt := 112) C.1.1 C.1.2.1 d_LN_takeRange_100 (by decide) (fun c58 => ?_) (fun c58 => ?_)
          · rw [if_pos c58] at hf
            refine lv_null C.1.1 C.1.2.1 d_LN_takeRange_112 ?_
            cases hf
            exact hq_aret C I (Or.inl ⟨_, rfl⟩) (by decide) (by decide) d_LN_takeRange_113
          · rw [if_neg c58] at hf
            refine hq_aload_n C.1.1 C.1.2.1 d_LN_takeRange_103 rfl (lv_at hl 1 rfl) ?_
            refine hq_aload_n C.1.1 C.1.2.1 d_LN_takeRange_104 rfl (lv_at hl 0 rfl) ?_
            refine lv_iload_n C.1.1 C.1.2.1 d_LN_takeRange_105 rfl (lv_at hl 3 rfl) ?_
            replace hf := Option.bind_eq_some_iff.mp hf
            obtain ⟨b61, e62, hf⟩ := hf
            obtain ⟨e62r, _, e62c⟩ := hp_o_inv e62
            cases e62r
            replace hf := Option.bind_eq_some_iff.mp hf
            obtain ⟨q59, e60, hf⟩ := hf
            refine hq_callW gt_good C I hl.1 (k_LN_takeRestOfRange l G B _ t0 q34.1 y2 q59 e60) M_LN_79 e62c rfl ⟨rfl, rfl⟩ ⟨Nat.le_of_ble_eq_true rfl, Nat.le_of_ble_eq_true rfl⟩ rfl (Nat.le_of_ble_eq_true rfl) d_LN_takeRange_106 ⟨Nat.le_of_ble_eq_true rfl, Nat.le_of_ble_eq_true rfl⟩ (fun H locs I => ?_)
            refine W.widen (k := 5) (n := 31) (by decide) (by decide) ?_
            refine lv_goto (tgt := 113) C.1.1 C.1.2.1 d_LN_takeRange_109 (by decide) ?_
            cases hf
            exact hq_aret C I (Or.inl ⟨_, rfl⟩) (by decide) (by decide) d_LN_takeRange_113
        · rw [if_neg c53] at hf
          refine hq_aload_n C.1.1 C.1.2.1 d_LN_takeRange_88 rfl (lv_at hl 0 rfl) ?_
          refine lv_iconst (v := 0) C.1.1 C.1.2.1 d_LN_takeRange_89 (by decide) ?_
          replace hf := Option.bind_eq_some_iff.mp hf
          obtain ⟨q63, e64, hf⟩ := hf
          refine hq_callS gt_good C I hl.1 (k_RG_exactly l G B _ q34.1 (0 : Int32) q63 e64) M_LN_73 ⟨rfl, rfl⟩ ⟨Nat.le_of_ble_eq_true rfl, Nat.le_of_ble_eq_true rfl⟩ rfl (Nat.le_of_ble_eq_true rfl) d_LN_takeRange_90 ⟨Nat.le_of_ble_eq_true rfl, Nat.le_of_ble_eq_true rfl⟩ (fun H locs I => ?_)
          refine W.widen (k := 3) (n := 18) (by decide) (by decide) ?_
          cases hf
          exact hq_aret C I (Or.inl ⟨_, rfl⟩) (by decide) (by decide) d_LN_takeRange_93
    · rw [if_pos c38] at hf
      refine lv_null C.1.1 C.1.2.1 d_LN_takeRange_73 ?_
      cases hf
      exact hq_aret C I (Or.inl ⟨_, rfl⟩) (by decide) (by decide) d_LN_takeRange_74
set_option maxRecDepth 100000 in
set_option maxHeartbeats 4000000 in
theorem k_LN_takeRange_L25 {p : Program} {l : Launch} {e : Env} {s : State} {m : MethodId} {args : Array Value} {below : List Frame} {meth : Method} {c : Code} {G : hp_G} {B : Nat} (C : hq_C p s m args meth c b_LN_takeRange 4 ((Option.some (Jvm.ClassFile.FieldType.object "LayeredLauncher$Range"))) "LayeredLauncher$Line" "takeRange" gt G vwCl aTs) : ∀ (t0 : Nat) (y1 : Int32) (s0 : Int32) (h : hp_H) (out : Option Nat × hp_H), f_LN_takeRange_L25 t0 y1 s0 h = some out → ∀ (H : Heap) (locs : List Loc), hp_I G vwCl B s.heap h H locs → ∀ ls : Array Slot, lv_has ls 4 [(0, va_rf (some t0)), (1, .int y1)] → W p l e ({ frames := 4, cells := 5, slots := 31, locals := 94 }) s m args below meth c H locs 0 0 (MQ below (hq_Q G vwCl B (some (va_rf out.1)) out.2) args s 5 31 (fun q => B ≤ q)) (F0 m 25 ls [.int s0]) := by
  intro t0 y1 s0 h out hf H locs I ls hl
  unfold f_LN_takeRange_L25 at hf
  refine lv_istore_n (i := 2) (lv' := [(2, .int s0), (0, va_rf (some t0)), (1, .int y1)]) C.1.1 C.1.2.1 d_LN_takeRange_25 rfl hl (by decide) (by first | rfl | simp [hq_cat, hq_catI, hq_catL]) (fun ls hl => ?_)
  refine lv_iload_n C.1.1 C.1.2.1 d_LN_takeRange_26 rfl (lv_at hl 2 rfl) ?_
  refine lv_if_ne (tgt := 53) C.1.1 C.1.2.1 d_LN_takeRange_27 (by decide) (fun c11 => ?_) (fun c11 => ?_)
  · rw [if_neg c11] at hf
    refine W.widen (k := 0) (n := 0) (by decide) (by decide) ?_
    exact k_LN_takeRange_L53 C t0 y1 s0 h _ hf _ _ I ls (lv_sub hl [1, 2, 0] rfl)
  · rw [if_pos c11] at hf
    refine lv_iload_n C.1.1 C.1.2.1 d_LN_takeRange_30 rfl (lv_at hl 0 rfl) ?_
    refine lv_if_ne (tgt := 53) C.1.1 C.1.2.1 d_LN_takeRange_31 (by decide) (fun c12 => ?_) (fun c12 => ?_)
    · rw [if_neg c12] at hf
      refine W.widen (k := 0) (n := 0) (by decide) (by decide) ?_
      exact k_LN_takeRange_L53 C t0 y1 s0 h _ hf _ _ I ls (lv_sub hl [1, 2, 0] rfl)
    · rw [if_pos c12] at hf
      refine hq_aload_n C.1.1 C.1.2.1 d_LN_takeRange_34 rfl (lv_at hl 1 rfl) ?_
      replace hf := Option.bind_eq_some_iff.mp hf
      obtain ⟨b15, e16, hf⟩ := hf
      obtain ⟨e16r, _, e16c⟩ := hp_o_inv e16
      cases e16r
      replace hf := Option.bind_eq_some_iff.mp hf
      obtain ⟨q13, e14, hf⟩ := hf
      refine hq_callW gt_good C I hl.1 (k_LN_takeVersion l G B _ t0 q13 e14) M_LN_69 e16c rfl ⟨rfl, rfl⟩ ⟨Nat.le_of_ble_eq_true rfl, Nat.le_of_ble_eq_true rfl⟩ rfl (Nat.le_of_ble_eq_true rfl) d_LN_takeRange_35 ⟨Nat.le_of_ble_eq_true rfl, Nat.le_of_ble_eq_true rfl⟩ (fun H locs I => ?_)
      refine W.widen (k := 2) (n := 13) (by decide) (by decide) ?_
      refine hq_astore_n (r := q13.1) (i := 3) (lv' := [(3, va_rf q13.1), (2, .int s0), (0, va_rf (some t0)), (1, .int y1)]) C.1.1 C.1.2.1 d_LN_takeRange_38 rfl hl (by decide) (by first | rfl | simp [hq_cat, hq_catI, hq_catL]) (fun ls hl => ?_)
      refine hq_aload_n C.1.1 C.1.2.1 d_LN_takeRange_39 rfl (lv_at hl 0 rfl) ?_
      refine hq_ifnonnull (tgt := 47) C.1.1 C.1.2.1 d_LN_takeRange_40 (by decide) (fun c17 => ?_) (fun c17 => ?_)
      · rw [if_neg c17] at hf
        refine hq_aload_n C.1.1 C.1.2.1 d_LN_takeRange_47 rfl (lv_at hl 0 rfl) ?_
        refine lv_iconst (v := 1) C.1.1 C.1.2.1 d_LN_takeRange_48 (by decide) ?_
        replace hf := Option.bind_eq_some_iff.mp hf
        obtain ⟨q18, e19, hf⟩ := hf
        refine hq_callS gt_good C I hl.1 (k_RG_exactly l G B _ q13.1 (1 : Int32) q18 e19) M_LN_73 ⟨rfl, rfl⟩ ⟨Nat.le_of_ble_eq_true rfl, Nat.le_of_ble_eq_true rfl⟩ rfl (Nat.le_of_ble_eq_true rfl) d_LN_takeRange_49 ⟨Nat.le_of_ble_eq_true rfl, Nat.le_of_ble_eq_true rfl⟩ (fun H locs I => ?_)
        refine W.widen (k := 3) (n := 18) (by decide) (by decide) ?_
        cases hf
        exact hq_aret C I (Or.inl ⟨_, rfl⟩) (by decide) (by decide) d_LN_takeRange_52
      · rw [if_pos c17] at hf
        refine lv_null C.1.1 C.1.2.1 d_LN_takeRange_43 ?_
        refine lv_goto (tgt := 52) C.1.1 C.1.2.1 d_LN_takeRange_44 (by decide) ?_
        cases hf
        exact hq_aret C I (Or.inl ⟨_, rfl⟩) (by decide) (by decide) d_LN_takeRange_52
set_option maxRecDepth 100000 in
set_option maxHeartbeats 4000000 in
theorem k_LN_takeRange_L24 {p : Program} {l : Launch} {e : Env} {s : State} {m : MethodId} {args : Array Value} {below : List Frame} {meth : Method} {c : Code} {G : hp_G} {B : Nat} (C : hq_C p s m args meth c b_LN_takeRange 4 ((Option.some (Jvm.ClassFile.FieldType.object "LayeredLauncher$Range"))) "LayeredLauncher$Line" "takeRange" gt G vwCl aTs) : ∀ (t0 : Nat) (y1 : Int32) (h : hp_H) (out : Option Nat × hp_H), f_LN_takeRange_L24 t0 y1 h = some out → ∀ (H : Heap) (locs : List Loc), hp_I G vwCl B s.heap h H locs → ∀ ls : Array Slot, lv_has ls 4 [(0, va_rf (some t0)), (1, .int y1)] → W p l e ({ frames := 4, cells := 5, slots := 31, locals := 94 }) s m args below meth c H locs 0 0 (MQ below (hq_Q G vwCl B (some (va_rf out.1)) out.2) args s 5 31 (fun q => B ≤ q)) (F0 m 24 ls []) := by
  intro t0 y1 h out hf H locs I ls hl
  unfold f_LN_takeRange_L24 at hf
  refine lv_iconst (v := 0) C.1.1 C.1.2.1 d_LN_takeRange_24 (by decide) ?_
  refine W.widen (k := 0) (n := 0) (by decide) (by decide) ?_
  exact k_LN_takeRange_L25 C t0 y1 (0 : Int32) h _ hf _ _ I ls (lv_sub hl [0, 1] rfl)
set_option maxRecDepth 100000 in
set_option maxHeartbeats 4000000 in
theorem k_LN_takeRange (l : Launch) (G : hp_G) (B : Nat) (h : hp_H) (t0 : Nat) (out : Option Nat × hp_H) (hf : f_LN_takeRange h t0 = some out) : Met l y_LN_takeRange (.code y_LN_takeRange b_LN_takeRange 4 ((Option.some (Jvm.ClassFile.FieldType.object "LayeredLauncher$Range"))) :: gt) ({ frames := 4, cells := 5, slots := 31, locals := 94 }) (hq_Pc G vwCl aTs B h [.ref t0]) (hq_Q G vwCl B (some (va_rf out.1)) out.2) 5 31 (fun q => B ≤ q) := by
  refine hq_enter (nL := 4) (by decide +kernel) (Nat.le_of_ble_eq_true rfl) ?_
  intro p e s m args below meth c C I ls hl
  have hl : lv_has ls 4 [(0, va_rf (some t0))] := hl
  unfold f_LN_takeRange at hf
  refine hq_aload_n C.1.1 C.1.2.1 d_LN_takeRange_0 rfl (lv_at hl 0 rfl) ?_
  refine lv_bipush (v := 91) C.1.1 C.1.2.1 d_LN_takeRange_1 (by decide) ?_
  replace hf := Option.bind_eq_some_iff.mp hf
  obtain ⟨b3, e4, hf⟩ := hf
  obtain ⟨e4r, _, e4c⟩ := hp_o_inv e4
  cases e4r
  replace hf := Option.bind_eq_some_iff.mp hf
  obtain ⟨q1, e2, hf⟩ := hf
  refine hq_callW gt_good C I hl.1 (k_LN_take l G B _ t0 (91 : Int32) q1 e2) M_LN_54 e4c rfl ⟨rfl, rfl⟩ ⟨Nat.le_of_ble_eq_true rfl, Nat.le_of_ble_eq_true rfl⟩ rfl (Nat.le_of_ble_eq_true rfl) d_LN_takeRange_3 ⟨Nat.le_of_ble_eq_true rfl, Nat.le_of_ble_eq_true rfl⟩ (fun H locs I => ?_)
  refine W.widen (k := 0) (n := 0) (by decide) (by decide) ?_
  refine lv_istore_n (i := 1) (lv' := [(1, .int q1.1), (0, va_rf (some t0))]) C.1.1 C.1.2.1 d_LN_takeRange_6 rfl hl (by decide) (by first | rfl | simp [hq_cat, hq_catI, hq_catL]) (fun ls hl => ?_)
  refine lv_iload_n C.1.1 C.1.2.1 d_LN_takeRange_7 rfl (lv_at hl 0 rfl) ?_
  refine lv_if_ne (tgt := 24) C.1.1 C.1.2.1 d_LN_takeRange_8 (by decide) (fun c5 => ?_) (fun c5 => ?_)
  · rw [if_neg c5] at hf
    refine W.widen (k := 0) (n := 0) (by decide) (by decide) ?_
    exact k_LN_takeRange_L24 C t0 q1.1 q1.2 _ hf _ _ I ls (lv_sub hl [1, 0] rfl)
  · rw [if_pos c5] at hf
    refine hq_aload_n C.1.1 C.1.2.1 d_LN_takeRange_11 rfl (lv_at hl 1 rfl) ?_
    refine lv_bipush (v := 40) C.1.1 C.1.2.1 d_LN_takeRange_12 (by decide) ?_
    replace hf := Option.bind_eq_some_iff.mp hf
    obtain ⟨b8, e9, hf⟩ := hf
    obtain ⟨e9r, _, e9c⟩ := hp_o_inv e9
    cases e9r
    replace hf := Option.bind_eq_some_iff.mp hf
    obtain ⟨q6, e7, hf⟩ := hf
    refine hq_callW gt_good C I hl.1 (k_LN_take l G B _ t0 (40 : Int32) q6 e7) M_LN_54 e9c rfl ⟨rfl, rfl⟩ ⟨Nat.le_of_ble_eq_true rfl, Nat.le_of_ble_eq_true rfl⟩ rfl (Nat.le_of_ble_eq_true rfl) d_LN_takeRange_14 ⟨Nat.le_of_ble_eq_true rfl, Nat.le_of_ble_eq_true rfl⟩ (fun H locs I => ?_)
    refine W.widen (k := 0) (n := 0) (by decide) (by decide) ?_
    refine lv_if_eq (tgt := 24) C.1.1 C.1.2.1 d_LN_takeRange_17 (by decide) (fun c10 => ?_) (fun c10 => ?_)
    · rw [if_pos c10] at hf
      refine W.widen (k := 0) (n := 0) (by decide) (by decide) ?_
      exact k_LN_takeRange_L24 C t0 q1.1 q6.2 _ hf _ _ I ls (lv_sub hl [1, 0] rfl)
    · rw [if_neg c10] at hf
      refine lv_iconst (v := 1) C.1.1 C.1.2.1 d_LN_takeRange_20 (by decide) ?_
      refine lv_goto (tgt := 25) C.1.1 C.1.2.1 d_LN_takeRange_21 (by decide) ?_
      refine W.widen (k := 0) (n := 0) (by decide) (by decide) ?_
      exact k_LN_takeRange_L25 C t0 q1.1 (1 : Int32) q6.2 _ hf _ _ I ls (lv_sub hl [1, 0] rfl)
set_option maxRecDepth 100000 in
set_option maxHeartbeats 4000000 in
theorem k_LL_artifactAt (l : Launch) (G : hp_G) (B : Nat) (h : hp_H) (t0 : Nat) (p1 : Int32) (out : Option Nat × hp_H) (hf : f_LL_artifactAt h t0 p1 = some out) : Met l y_LL_artifactAt (.code y_LL_artifactAt b_LL_artifactAt 2 ((Option.some (Jvm.ClassFile.FieldType.object "LayeredLauncher$Artifact"))) :: gt) ({ frames := 0, cells := 0, slots := 0, locals := 0 }) (hq_Pc G vwCl aTs B h [.ref t0, .int p1]) (hq_Q G vwCl B (some (va_rf out.1)) out.2) 0 0 (fun q => B ≤ q) := by
  refine hq_enter (nL := 2) (by decide +kernel) (Nat.le_of_ble_eq_true rfl) ?_
  intro p e s m args below meth c C I ls hl
  have hl : lv_has ls 2 [(0, va_rf (some t0)), (1, .int p1)] := hl
  unfold f_LL_artifactAt at hf
  refine lv_iload_n C.1.1 C.1.2.1 d_LL_artifactAt_0 rfl (lv_at hl 1 rfl) ?_
  refine lv_if_lt (tgt := 21) C.1.1 C.1.2.1 d_LL_artifactAt_1 (by decide) (fun c1 => ?_) (fun c1 => ?_)
  · rw [if_pos c1] at hf
    refine lv_null C.1.1 C.1.2.1 d_LL_artifactAt_21 ?_
    cases hf
    exact hq_aret C I (Or.inl ⟨_, rfl⟩) (by decide) (by decide) d_LL_artifactAt_22
  · rw [if_neg c1] at hf
    refine lv_iload_n C.1.1 C.1.2.1 d_LL_artifactAt_4 rfl (lv_at hl 1 rfl) ?_
    refine hq_aload_n C.1.1 C.1.2.1 d_LL_artifactAt_5 rfl (lv_at hl 0 rfl) ?_
    replace hf := Option.bind_eq_some_iff.mp hf
    obtain ⟨x2, e3, hf⟩ := hf
    refine hq_getI C I F_LL_22 e3 d_LL_artifactAt_6 ?_
    refine lv_icmp_ge (tgt := 21) C.1.1 C.1.2.1 d_LL_artifactAt_9 (by decide) (fun c4 => ?_) (fun c4 => ?_)
    · rw [if_pos c4] at hf
      refine lv_null C.1.1 C.1.2.1 d_LL_artifactAt_21 ?_
      cases hf
      exact hq_aret C I (Or.inl ⟨_, rfl⟩) (by decide) (by decide) d_LL_artifactAt_22
    · rw [if_neg c4] at hf
      refine hq_aload_n C.1.1 C.1.2.1 d_LL_artifactAt_12 rfl (lv_at hl 0 rfl) ?_
      replace hf := Option.bind_eq_some_iff.mp hf
      obtain ⟨x5, e6, hf⟩ := hf
      refine hq_getR C I F_LL_18 e6 d_LL_artifactAt_13 ?_
      refine lv_iload_n C.1.1 C.1.2.1 d_LL_artifactAt_16 rfl (lv_at hl 1 rfl) ?_
      replace hf := Option.bind_eq_some_iff.mp hf
      obtain ⟨x7, e8, hf⟩ := hf
      refine hq_aald C I (t := 4) rfl e8 d_LL_artifactAt_17 ?_
      refine lv_goto (tgt := 22) C.1.1 C.1.2.1 d_LL_artifactAt_18 (by decide) ?_
      cases hf
      exact hq_aret C I (Or.inl ⟨_, rfl⟩) (by decide) (by decide) d_LL_artifactAt_22
set_option maxRecDepth 100000 in
set_option maxHeartbeats 4000000 in
theorem k_DP_init (l : Launch) (G : hp_G) (B : Nat) (h : hp_H) (t0 : Nat) (p1 : Int64) (p3 : Option Nat) (p4 : Int32) (out : hp_H) (hf : f_DP_init h t0 p1 p3 p4 = some out) : Met l y_DP_init (.code y_DP_init b_DP_init 5 ((Option.none : Option Jvm.ClassFile.FieldType)) :: gt) ({ frames := 1, cells := 1, slots := 3, locals := 20 }) (hq_Pc G vwCl aTs B h [.ref t0, .long p1, va_rf p3, .int p4]) (hq_Q G vwCl B none out) 1 3 (fun q => B ≤ q) := by
  refine hq_enter (nL := 5) (by decide +kernel) (by simp [lg_sl, hq_cat, hq_catI, hq_catL, hq_catR]) ?_
  intro p e s m args below meth c C I ls hl
  have hl : lv_has ls 5 [(0, va_rf (some t0)), (1, .long p1), (3, va_rf p3), (4, .int p4)] := by simp [lv_args, hq_cat, hq_catI, hq_catL, hq_catR] at hl; exact hl
  unfold f_DP_init at hf
  refine hq_aload_n C.1.1 C.1.2.1 d_DP_init_0 rfl (lv_at hl 0 rfl) ?_
  refine W.objInit C.1.1 C.1.2.1 C.1.2.2.2.1 (C.1.2.2.2.2 _ g329) (C.1.2.2.2.2 _ g53) (C.1.2.2.2.2 _ g54) rfl (by rw [C.1.2.2.1]; exact hl.1) rfl d_DP_init_1 (Nat.le_of_ble_eq_true rfl) (Nat.le_of_ble_eq_true rfl) ?_
  refine W.eq (g2 := F0 m 4 ls []) rfl ?_
  refine hq_aload_n C.1.1 C.1.2.1 d_DP_init_4 rfl (lv_at hl 0 rfl) ?_
  refine lv_iconst (v := 3) C.1.1 C.1.2.1 d_DP_init_5 (by decide) ?_
  refine hq_newa C I (t := 1) (x := .inr (.inl (fun _ => 0))) rfl rfl g204 (mx := 3) (fun cA => rfl) (by decide) (by decide) (Nat.le_refl _) (by decide) (Nat.le_of_ble_eq_true rfl) (Nat.le_of_ble_eq_true rfl) d_DP_init_6 (fun H I => ?_)
  refine W.widen (k := 1) (n := 3) (by decide) (by decide) ?_
  replace hf := Option.bind_eq_some_iff.mp hf
  obtain ⟨h1, e2, hf⟩ := hf
  rw [Option.some.inj e2] at I
  replace hf := Option.bind_eq_some_iff.mp hf
  obtain ⟨h3, e4, hf⟩ := hf
  refine hq_putF C I F_DP_9 (fun r hr => by cases hr; rfl) e4 (hq_rfa _ _).1 (hq_rfa _ _).2 d_DP_init_8 (fun H locs I => ?_)
  refine hq_aload_n C.1.1 C.1.2.1 d_DP_init_11 rfl (lv_at hl 0 rfl) ?_
  refine lv_iconst (v := 0) C.1.1 C.1.2.1 d_DP_init_12 (by decide) ?_
  replace hf := Option.bind_eq_some_iff.mp hf
  obtain ⟨h5, e6, hf⟩ := hf
  refine hq_put C I F_DP_15 e6 rfl rfl d_DP_init_13 (fun H locs I => ?_)
  refine hq_aload_n C.1.1 C.1.2.1 d_DP_init_16 rfl (lv_at hl 0 rfl) ?_
  refine lv_lload_n C.1.1 C.1.2.1 d_DP_init_17 rfl (lv_at hl 1 rfl) ?_
  replace hf := Option.bind_eq_some_iff.mp hf
  obtain ⟨h7, e8, hf⟩ := hf
  refine hq_putF C I F_DP_19 (fun r hr => by cases hr; rfl) e8 rfl rfl d_DP_init_18 (fun H locs I => ?_)
  refine hq_aload_n C.1.1 C.1.2.1 d_DP_init_21 rfl (lv_at hl 0 rfl) ?_
  refine hq_aload_n C.1.1 C.1.2.1 d_DP_init_22 rfl (lv_at hl 2 rfl) ?_
  replace hf := Option.bind_eq_some_iff.mp hf
  obtain ⟨h9, e10, hf⟩ := hf
  refine hq_putF C I F_DP_23 (fun r hr => by cases hr; rfl) e10 (hq_rff _ _).1 (hq_rff _ _).2 d_DP_init_23 (fun H locs I => ?_)
  refine hq_aload_n C.1.1 C.1.2.1 d_DP_init_26 rfl (lv_at hl 0 rfl) ?_
  refine lv_iload C.1.1 C.1.2.1 d_DP_init_27 (lv_at hl 3 rfl) ?_
  replace hf := Option.bind_eq_some_iff.mp hf
  obtain ⟨z13, e14, hf⟩ := hf
  obtain ⟨rfl, e14⟩ := hp_z_inv e14
  replace hf := Option.bind_eq_some_iff.mp hf
  obtain ⟨h11, e12, hf⟩ := hf
  refine hq_putF C I F_DP_27 (fun r hr => by cases hr; rfl) e12 (hp_z_nar e14).1 (hp_z_nar e14).2 d_DP_init_29 (fun H locs I => ?_)
  cases hf
  exact hq_vret C I (by decide) (by decide) d_DP_init_32
set_option maxRecDepth 100000 in
set_option maxHeartbeats 4000000 in
theorem k_AR_addDependency (l : Launch) (G : hp_G) (B : Nat) (h : hp_H) (t0 : Nat) (p1 : Option Nat) (out : hp_H) (hf : f_AR_addDependency h t0 p1 = some out) : Met l y_AR_addDependency (.code y_AR_addDependency b_AR_addDependency 2 ((Option.none : Option Jvm.ClassFile.FieldType)) :: gt) ({ frames := 0, cells := 0, slots := 0, locals := 0 }) (hq_Pc G vwCl aTs B h [.ref t0, va_rf p1]) (hq_Q G vwCl B none out) 0 0 (fun q => B ≤ q) := by
  refine hq_enter (nL := 2) (by decide +kernel) (by simp [lg_sl, hq_cat, hq_catI, hq_catL, hq_catR]) ?_
  intro p e s m args below meth c C I ls hl
  have hl : lv_has ls 2 [(0, va_rf (some t0)), (1, va_rf p1)] := by simp [lv_args, hq_cat, hq_catI, hq_catL, hq_catR] at hl; exact hl
  unfold f_AR_addDependency at hf
  refine hq_aload_n C.1.1 C.1.2.1 d_AR_addDependency_0 rfl (lv_at hl 0 rfl) ?_
  replace hf := Option.bind_eq_some_iff.mp hf
  obtain ⟨x1, e2, hf⟩ := hf
  refine hq_getI C I F_AR_17 e2 d_AR_addDependency_1 ?_
  refine lv_bipush (v := 6) C.1.1 C.1.2.1 d_AR_addDependency_4 (by decide) ?_
  refine lv_icmp_ge (tgt := 29) C.1.1 C.1.2.1 d_AR_addDependency_6 (by decide) (fun c3 => ?_) (fun c3 => ?_)
  · rw [if_pos c3] at hf
    cases hf
    exact hq_vret C I (by decide) (by decide) d_AR_addDependency_29
  · rw [if_neg c3] at hf
    refine hq_aload_n C.1.1 C.1.2.1 d_AR_addDependency_9 rfl (lv_at hl 0 rfl) ?_
    replace hf := Option.bind_eq_some_iff.mp hf
    obtain ⟨x4, e5, hf⟩ := hf
    refine hq_getR C I F_AR_11 e5 d_AR_addDependency_10 ?_
    refine hq_aload_n C.1.1 C.1.2.1 d_AR_addDependency_13 rfl (lv_at hl 0 rfl) ?_
    replace hf := Option.bind_eq_some_iff.mp hf
    obtain ⟨x6, e7, hf⟩ := hf
    refine hq_getI C I F_AR_17 e7 d_AR_addDependency_14 ?_
    refine hq_aload_n C.1.1 C.1.2.1 d_AR_addDependency_17 rfl (lv_at hl 1 rfl) ?_
    replace hf := Option.bind_eq_some_iff.mp hf
    obtain ⟨h8, e9, hf⟩ := hf
    refine hq_aast C I (t := 5) (ci := 4) rfl rfl e9 d_AR_addDependency_18 (fun H locs I => ?_)
    refine hq_aload_n C.1.1 C.1.2.1 d_AR_addDependency_19 rfl (lv_at hl 0 rfl) ?_
    refine lv_dup C.1.1 C.1.2.1 d_AR_addDependency_20 (hq_cat _) ?_
    replace hf := Option.bind_eq_some_iff.mp hf
    obtain ⟨x10, e11, hf⟩ := hf
    refine hq_getI C I F_AR_17 e11 d_AR_addDependency_21 ?_
    refine lv_iconst (v := 1) C.1.1 C.1.2.1 d_AR_addDependency_24 (by decide) ?_
    refine lv_iadd C.1.1 C.1.2.1 d_AR_addDependency_25 ?_
    replace hf := Option.bind_eq_some_iff.mp hf
    obtain ⟨h12, e13, hf⟩ := hf
    refine hq_put C I F_AR_17 e13 rfl rfl d_AR_addDependency_26 (fun H locs I => ?_)
    cases hf
    exact hq_vret C I (by decide) (by decide) d_AR_addDependency_29
set_option maxRecDepth 100000 in
set_option maxHeartbeats 4000000 in
theorem k_LL_depend (l : Launch) (G : hp_G) (B : Nat) (h : hp_H) (t0 : Nat) (p1 : Int32) (p2 : Int32) (out : Int32 × hp_H) (hf : f_LL_depend h t0 p1 p2 = some out) : Met l y_LL_depend (.code y_LL_depend b_LL_depend 8 ((Option.some Jvm.ClassFile.FieldType.int)) :: gt) ({ frames := 5, cells := 7, slots := 39, locals := 117 }) (hq_Pc G vwCl aTs B h [.ref t0, .int p1, .int p2]) (hq_Q G vwCl B (some (.int out.1)) out.2) 7 39 (fun q => B ≤ q) := by
  refine hq_enter (nL := 8) (by decide +kernel) (Nat.le_of_ble_eq_true rfl) ?_
  intro p e s m args below meth c C I ls hl
  have hl : lv_has ls 8 [(0, va_rf (some t0)), (1, .int p1), (2, .int p2)] := hl
  unfold f_LL_depend at hf
  refine hq_aload_n C.1.1 C.1.2.1 d_LL_depend_0 rfl (lv_at hl 0 rfl) ?_
  replace hf := Option.bind_eq_some_iff.mp hf
  obtain ⟨x1, e2, hf⟩ := hf
  refine hq_getR C I F_LL_10 e2 d_LL_depend_1 ?_
  replace hf := Option.bind_eq_some_iff.mp hf
  obtain ⟨b5, e6, hf⟩ := hf
  obtain ⟨e6r, _, e6c⟩ := hp_o_inv e6
  replace hf := Option.bind_eq_some_iff.mp hf
  obtain ⟨q3, e4, hf⟩ := hf
  refine hq_callW gt_good C I hl.1 (k_LN_takeNameAndColon l G B _ b5 q3 e4) M_LL_49 e6c e6r ⟨rfl, rfl⟩ ⟨Nat.le_of_ble_eq_true rfl, Nat.le_of_ble_eq_true rfl⟩ rfl (Nat.le_of_ble_eq_true rfl) d_LL_depend_4 ⟨Nat.le_of_ble_eq_true rfl, Nat.le_of_ble_eq_true rfl⟩ (fun H locs I => ?_)
  refine W.widen (k := 0) (n := 0) (by decide) (by decide) ?_
  refine lv_lstore_n (i := 3) (lv' := [(3, .long q3.1), (0, va_rf (some t0)), (1, .int p1), (2, .int p2)]) C.1.1 C.1.2.1 d_LL_depend_7 rfl hl (by decide) (by first | rfl | simp [hq_cat, hq_catI, hq_catL]) (fun ls hl => ?_)
  refine hq_aload_n C.1.1 C.1.2.1 d_LL_depend_8 rfl (lv_at hl 1 rfl) ?_
  replace hf := Option.bind_eq_some_iff.mp hf
  obtain ⟨x7, e8, hf⟩ := hf
  refine hq_getR C I F_LL_10 e8 d_LL_depend_9 ?_
  replace hf := Option.bind_eq_some_iff.mp hf
  obtain ⟨b11, e12, hf⟩ := hf
  obtain ⟨e12r, _, e12c⟩ := hp_o_inv e12
  replace hf := Option.bind_eq_some_iff.mp hf
  obtain ⟨q9, e10, hf⟩ := hf
  refine hq_callW gt_good C I hl.1 (k_LN_takeRange l G B _ b11 q9 e10) M_LL_78 e12c e12r ⟨rfl, rfl⟩ ⟨Nat.le_of_ble_eq_true rfl, Nat.le_of_ble_eq_true rfl⟩ rfl (Nat.le_of_ble_eq_true rfl) d_LL_depend_12 ⟨Nat.le_of_ble_eq_true rfl, Nat.le_of_ble_eq_true rfl⟩ (fun H locs I => ?_)
  refine W.widen (k := 5) (n := 31) (by decide) (by decide) ?_
  refine hq_astore (r := q9.1) (i := 5) (lv' := [(5, va_rf q9.1), (3, .long q3.1), (0, va_rf (some t0)), (1, .int p1), (2, .int p2)]) C.1.1 C.1.2.1 d_LL_depend_15 hl (by decide) (by first | rfl | simp [hq_cat, hq_catI, hq_catL]) (fun ls hl => ?_)
  refine hq_aload_n C.1.1 C.1.2.1 d_LL_depend_17 rfl (lv_at hl 2 rfl) ?_
  replace hf := Option.bind_eq_some_iff.mp hf
  obtain ⟨x13, e14, hf⟩ := hf
  refine hq_getR C I F_LL_10 e14 d_LL_depend_18 ?_
  replace hf := Option.bind_eq_some_iff.mp hf
  obtain ⟨b17, e18, hf⟩ := hf
  obtain ⟨e18r, _, e18c⟩ := hp_o_inv e18
  replace hf := Option.bind_eq_some_iff.mp hf
  obtain ⟨q15, e16, hf⟩ := hf
  refine hq_callW gt_good C I hl.1 (k_LN_finishReading l G B _ b17 q15 e16) M_LL_61 e18c e18r ⟨rfl, rfl⟩ ⟨Nat.le_of_ble_eq_true rfl, Nat.le_of_ble_eq_true rfl⟩ rfl (Nat.le_of_ble_eq_true rfl) d_LL_depend_21 ⟨Nat.le_of_ble_eq_true rfl, Nat.le_of_ble_eq_true rfl⟩ (fun H locs I => ?_)
  refine W.widen (k := 5) (n := 31) (by decide) (by decide) ?_
  refine lv_istore (i := 6) (lv' := [(6, .int q15.1), (5, va_rf q9.1), (3, .long q3.1), (0, va_rf (some t0)), (1, .int p1), (2, .int p2)]) C.1.1 C.1.2.1 d_LL_depend_24 hl (by decide) (by first | rfl | simp [hq_cat, hq_catI, hq_catL]) (fun ls hl => ?_)
  refine hq_aload_n C.1.1 C.1.2.1 d_LL_depend_26 rfl (lv_at hl 3 rfl) ?_
  refine lv_iload_n C.1.1 C.1.2.1 d_LL_depend_27 rfl (lv_at hl 4 rfl) ?_
  replace hf := Option.bind_eq_some_iff.mp hf
  obtain ⟨b21, e22, hf⟩ := hf
  obtain ⟨e22r, _, e22c⟩ := hp_o_inv e22
  cases e22r
  replace hf := Option.bind_eq_some_iff.mp hf
  obtain ⟨q19, e20, hf⟩ := hf
  refine hq_callW gt_good C I hl.1 (k_LL_artifactAt l G B _ t0 p1 q19 e20) M_LL_82 e22c rfl ⟨rfl, rfl⟩ ⟨Nat.le_of_ble_eq_true rfl, Nat.le_of_ble_eq_true rfl⟩ rfl (Nat.le_of_ble_eq_true rfl) d_LL_depend_28 ⟨Nat.le_of_ble_eq_true rfl, Nat.le_of_ble_eq_true rfl⟩ (fun H locs I => ?_)
  refine W.widen (k := 5) (n := 31) (by decide) (by decide) ?_
  refine hq_astore (r := q19.1) (i := 7) (lv' := [(7, va_rf q19.1), (6, .int q15.1), (5, va_rf q9.1), (3, .long q3.1), (0, va_rf (some t0)), (1, .int p1), (2, .int p2)]) C.1.1 C.1.2.1 d_LL_depend_31 hl (by decide) (by first | rfl | simp [hq_cat, hq_catI, hq_catL]) (fun ls hl => ?_)
  refine hq_aload C.1.1 C.1.2.1 d_LL_depend_33 (lv_at hl 0 rfl) ?_
  refine hq_ifnonnull (tgt := 40) C.1.1 C.1.2.1 d_LL_depend_35 (by decide) (fun c23 => ?_) (fun c23 => ?_)
  · rw [if_neg c23] at hf
    refine lv_lload_n C.1.1 C.1.2.1 d_LL_depend_40 rfl (lv_at hl 3 rfl) ?_
    refine lv_lconst (v := 0) C.1.1 C.1.2.1 d_LL_depend_41 (by decide) ?_
    refine W.lcmp C.1.1 C.1.2.1 d_LL_depend_42 ?_
    refine lv_if_eq (tgt := 56) C.1.1 C.1.2.1 d_LL_depend_43 (by decide) (fun c24 => ?_) (fun c24 => ?_)
    · rw [if_pos c24] at hf
      refine lv_bipush (v := -3) C.1.1 C.1.2.1 d_LL_depend_56 (by decide) ?_
      cases hf
      exact hq_iret C I (by decide) (by decide) d_LL_depend_58
    · rw [if_neg c24] at hf
      refine hq_aload C.1.1 C.1.2.1 d_LL_depend_46 (lv_at hl 2 rfl) ?_
      refine hq_ifnull (tgt := 56) C.1.1 C.1.2.1 d_LL_depend_48 (by decide) (fun c25 => ?_) (fun c25 => ?_)
      · rw [if_pos c25] at hf
        refine lv_bipush (v := -3) C.1.1 C.1.2.1 d_LL_depend_56 (by decide) ?_
        cases hf
        exact hq_iret C I (by decide) (by decide) d_LL_depend_58
      · rw [if_neg c25] at hf
        refine lv_iload C.1.1 C.1.2.1 d_LL_depend_51 (lv_at hl 1 rfl) ?_
        refine lv_if_ne (tgt := 59) C.1.1 C.1.2.1 d_LL_depend_53 (by decide) (fun c26 => ?_) (fun c26 => ?_)
        · rw [if_neg c26] at hf
          refine hq_aload C.1.1 C.1.2.1 d_LL_depend_59 (lv_at hl 0 rfl) ?_
          replace hf := Option.bind_eq_some_iff.mp hf
          obtain ⟨x27, e28, hf⟩ := hf
          refine hq_getI C I F_LL_86 e28 d_LL_depend_61 ?_
          refine lv_bipush (v := 6) C.1.1 C.1.2.1 d_LL_depend_64 (by decide) ?_
          refine lv_icmp_lt (tgt := 72) C.1.1 C.1.2.1 d_LL_depend_66 (by decide) (fun c29 => ?_) (fun c29 => ?_)
          · rw [if_pos c29] at hf
            refine hq_aload C.1.1 C.1.2.1 d_LL_depend_72 (lv_at hl 0 rfl) ?_
            refine hq_new C I K_DP g324 g325 g45 (fs := [.long 0, .null, .int 0, .null, .int 0]) (fun j hj => born_DP j hj) (Nat.le_of_ble_eq_true rfl) (Nat.le_of_ble_eq_true rfl) d_LL_depend_74 (fun H I => ?_)
            refine W.widen (k := 6) (n := 36) (by decide) (by decide) ?_
            replace hf := Option.bind_eq_some_iff.mp hf
            obtain ⟨h32, e31, hf⟩ := hf
            rw [Option.some.inj e31] at I
            refine lv_dup C.1.1 C.1.2.1 d_LL_depend_77 (hq_cat _) ?_
            refine lv_lload_n C.1.1 C.1.2.1 d_LL_depend_78 rfl (lv_at hl 3 rfl) ?_
            refine hq_aload C.1.1 C.1.2.1 d_LL_depend_79 (lv_at hl 2 rfl) ?_
            refine lv_iload_n C.1.1 C.1.2.1 d_LL_depend_81 rfl (lv_at hl 6 rfl) ?_
            replace hf := Option.bind_eq_some_iff.mp hf
            obtain ⟨q33, e34, hf⟩ := hf
            refine hq_callI gt_good C I hl.1 (k_DP_init l G B _ q19.2.2 q3.1 q9.1 p2 q33 e34) M_LL_91 ⟨rfl, rfl⟩ ⟨Nat.le_of_ble_eq_true rfl, Nat.le_of_ble_eq_true rfl⟩ rfl (by simp [hq_cat, hq_catI, hq_catL]) d_LL_depend_82 ⟨Nat.le_of_ble_eq_true rfl, Nat.le_of_ble_eq_true rfl⟩ (fun H locs I => ?_)
            refine W.widen (k := 7) (n := 39) (by decide) (by decide) ?_
            replace hf := Option.bind_eq_some_iff.mp hf
            obtain ⟨b37, e38, hf⟩ := hf
            obtain ⟨e38r, _, e38c⟩ := hp_o_inv e38
            replace hf := Option.bind_eq_some_iff.mp hf
            obtain ⟨q35, e36, hf⟩ := hf
            refine hq_callW gt_good C I hl.1 (k_AR_addDependency l G B _ b37 (some q19.2.2) q35 e36) M_LL_94 e38c e38r ⟨rfl, rfl⟩ ⟨Nat.le_of_ble_eq_true rfl, Nat.le_of_ble_eq_true rfl⟩ rfl (Nat.le_of_ble_eq_true rfl) d_LL_depend_85 ⟨Nat.le_of_ble_eq_true rfl, Nat.le_of_ble_eq_true rfl⟩ (fun H locs I => ?_)
            refine W.widen (k := 7) (n := 39) (by decide) (by decide) ?_
            refine hq_aload C.1.1 C.1.2.1 d_LL_depend_88 (lv_at hl 0 rfl) ?_
            replace hf := Option.bind_eq_some_iff.mp hf
            obtain ⟨x39, e40, hf⟩ := hf
            refine hq_getI C I F_LL_86 e40 d_LL_depend_90 ?_
            refine lv_iconst (v := 1) C.1.1 C.1.2.1 d_LL_depend_93 (by decide) ?_
            refine lv_isub C.1.1 C.1.2.1 d_LL_depend_94 ?_
            cases hf
            exact hq_iret C I (by decide) (by decide) d_LL_depend_95
          · rw [if_neg c29] at hf
            refine lv_bipush (v := -2) C.1.1 C.1.2.1 d_LL_depend_69 (by decide) ?_
            cases hf
            exact hq_iret C I (by decide) (by decide) d_LL_depend_71
        · rw [if_pos c26] at hf
          refine lv_bipush (v := -3) C.1.1 C.1.2.1 d_LL_depend_56 (by decide) ?_
          cases hf
          exact hq_iret C I (by decide) (by decide) d_LL_depend_58
  · rw [if_pos c23] at hf
    refine lv_iconst (v := -1) C.1.1 C.1.2.1 d_LL_depend_38 (by decide) ?_
    cases hf
    exact hq_iret C I (by decide) (by decide) d_LL_depend_39
set_option maxRecDepth 100000 in
set_option maxHeartbeats 4000000 in
theorem k_AR_lastDependency (l : Launch) (G : hp_G) (B : Nat) (h : hp_H) (t0 : Nat) (out : Option Nat × hp_H) (hf : f_AR_lastDependency h t0 = some out) : Met l y_AR_lastDependency (.code y_AR_lastDependency b_AR_lastDependency 1 ((Option.some (Jvm.ClassFile.FieldType.object "LayeredLauncher$Dependency"))) :: gt) ({ frames := 0, cells := 0, slots := 0, locals := 0 }) (hq_Pc G vwCl aTs B h [.ref t0]) (hq_Q G vwCl B (some (va_rf out.1)) out.2) 0 0 (fun q => B ≤ q) := by
  refine hq_enter (nL := 1) (by decide +kernel) (Nat.le_of_ble_eq_true rfl) ?_
  intro p e s m args below meth c C I ls hl
  have hl : lv_has ls 1 [(0, va_rf (some t0))] := hl
  unfold f_AR_lastDependency at hf
  refine hq_aload_n C.1.1 C.1.2.1 d_AR_lastDependency_0 rfl (lv_at hl 0 rfl) ?_
  replace hf := Option.bind_eq_some_iff.mp hf
  obtain ⟨x1, e2, hf⟩ := hf
  refine hq_getI C I F_AR_17 e2 d_AR_lastDependency_1 ?_
  refine lv_if_ne (tgt := 11) C.1.1 C.1.2.1 d_AR_lastDependency_4 (by decide) (fun c3 => ?_) (fun c3 => ?_)
  · rw [if_neg c3] at hf
    refine hq_aload_n C.1.1 C.1.2.1 d_AR_lastDependency_11 rfl (lv_at hl 0 rfl) ?_
    replace hf := Option.bind_eq_some_iff.mp hf
    obtain ⟨x4, e5, hf⟩ := hf
    refine hq_getR C I F_AR_11 e5 d_AR_lastDependency_12 ?_
    refine hq_aload_n C.1.1 C.1.2.1 d_AR_lastDependency_15 rfl (lv_at hl 0 rfl) ?_
    replace hf := Option.bind_eq_some_iff.mp hf
    obtain ⟨x6, e7, hf⟩ := hf
    refine hq_getI C I F_AR_17 e7 d_AR_lastDependency_16 ?_
    refine lv_iconst (v := 1) C.1.1 C.1.2.1 d_AR_lastDependency_19 (by decide) ?_
    refine lv_isub C.1.1 C.1.2.1 d_AR_lastDependency_20 ?_
    replace hf := Option.bind_eq_some_iff.mp hf
    obtain ⟨x8, e9, hf⟩ := hf
    refine hq_aald C I (t := 5) rfl e9 d_AR_lastDependency_21 ?_
    cases hf
    exact hq_aret C I (Or.inl ⟨_, rfl⟩) (by decide) (by decide) d_AR_lastDependency_22
  · rw [if_pos c3] at hf
    refine lv_null C.1.1 C.1.2.1 d_AR_lastDependency_7 ?_
    refine lv_goto (tgt := 22) C.1.1 C.1.2.1 d_AR_lastDependency_8 (by decide) ?_
    cases hf
    exact hq_aret C I (Or.inl ⟨_, rfl⟩) (by decide) (by decide) d_AR_lastDependency_22
set_option maxRecDepth 100000 in
set_option maxHeartbeats 4000000 in
theorem k_DP_addExclusion (l : Launch) (G : hp_G) (B : Nat) (h : hp_H) (t0 : Nat) (p1 : Int64) (out : hp_H) (hf : f_DP_addExclusion h t0 p1 = some out) : Met l y_DP_addExclusion (.code y_DP_addExclusion b_DP_addExclusion 3 ((Option.none : Option Jvm.ClassFile.FieldType)) :: gt) ({ frames := 0, cells := 0, slots := 0, locals := 0 }) (hq_Pc G vwCl aTs B h [.ref t0, .long p1]) (hq_Q G vwCl B none out) 0 0 (fun q => B ≤ q) := by
  refine hq_enter (nL := 3) (by decide +kernel) (Nat.le_of_ble_eq_true rfl) ?_
  intro p e s m args below meth c C I ls hl
  have hl : lv_has ls 3 [(0, va_rf (some t0)), (1, .long p1)] := hl
  unfold f_DP_addExclusion at hf
  refine hq_aload_n C.1.1 C.1.2.1 d_DP_addExclusion_0 rfl (lv_at hl 0 rfl) ?_
  replace hf := Option.bind_eq_some_iff.mp hf
  obtain ⟨x1, e2, hf⟩ := hf
  refine hq_getI C I F_DP_15 e2 d_DP_addExclusion_1 ?_
  refine lv_iconst (v := 3) C.1.1 C.1.2.1 d_DP_addExclusion_4 (by decide) ?_
  refine lv_icmp_ge (tgt := 28) C.1.1 C.1.2.1 d_DP_addExclusion_5 (by decide) (fun c3 => ?_) (fun c3 => ?_)
  · rw [if_pos c3] at hf
    cases hf
    exact hq_vret C I (by decide) (by decide) d_DP_addExclusion_28
  · rw [if_neg c3] at hf
    refine hq_aload_n C.1.1 C.1.2.1 d_DP_addExclusion_8 rfl (lv_at hl 0 rfl) ?_
    replace hf := Option.bind_eq_some_iff.mp hf
    obtain ⟨x4, e5, hf⟩ := hf
    refine hq_getR C I F_DP_9 e5 d_DP_addExclusion_9 ?_
    refine hq_aload_n C.1.1 C.1.2.1 d_DP_addExclusion_12 rfl (lv_at hl 0 rfl) ?_
    replace hf := Option.bind_eq_some_iff.mp hf
    obtain ⟨x6, e7, hf⟩ := hf
    refine hq_getI C I F_DP_15 e7 d_DP_addExclusion_13 ?_
    refine lv_lload_n C.1.1 C.1.2.1 d_DP_addExclusion_16 rfl (lv_at hl 1 rfl) ?_
    replace hf := Option.bind_eq_some_iff.mp hf
    obtain ⟨h8, e9, hf⟩ := hf
    refine hq_last C I (t := 1) rfl e9 d_DP_addExclusion_17 (fun H locs I => ?_)
    refine hq_aload_n C.1.1 C.1.2.1 d_DP_addExclusion_18 rfl (lv_at hl 0 rfl) ?_
    refine lv_dup C.1.1 C.1.2.1 d_DP_addExclusion_19 (hq_cat _) ?_
    replace hf := Option.bind_eq_some_iff.mp hf
    obtain ⟨x10, e11, hf⟩ := hf
    refine hq_getI C I F_DP_15 e11 d_DP_addExclusion_20 ?_
    refine lv_iconst (v := 1) C.1.1 C.1.2.1 d_DP_addExclusion_23 (by decide) ?_
    refine lv_iadd C.1.1 C.1.2.1 d_DP_addExclusion_24 ?_
    replace hf := Option.bind_eq_some_iff.mp hf
    obtain ⟨h12, e13, hf⟩ := hf
    refine hq_put C I F_DP_15 e13 rfl rfl d_DP_addExclusion_25 (fun H locs I => ?_)
    cases hf
    exact hq_vret C I (by decide) (by decide) d_DP_addExclusion_28
set_option maxRecDepth 100000 in
set_option maxHeartbeats 4000000 in
theorem k_LL_exclude_L38 {p : Program} {l : Launch} {e : Env} {s : State} {m : MethodId} {args : Array Value} {below : List Frame} {meth : Method} {c : Code} {G : hp_G} {B : Nat} (C : hq_C p s m args meth c b_LL_exclude 7 ((Option.some Jvm.ClassFile.FieldType.int)) "LayeredLauncher" "exclude" gt G vwCl aTs) : ∀ (y2 : Int64) (y4 : Int32) (s0 : Option Nat) (h : hp_H) (out : Int32 × hp_H), f_LL_exclude_L38 y2 y4 s0 h = some out → ∀ (H : Heap) (locs : List Loc), hp_I G vwCl B s.heap h H locs → ∀ ls : Array Slot, lv_has ls 7 [(2, .long y2), (4, .int y4)] → W p l e ({ frames := 2, cells := 0, slots := 0, locals := 44 }) s m args below meth c H locs 0 0 (MQ below (hq_Q G vwCl B (some (.int out.1)) out.2) args s 0 0 (fun q => B ≤ q)) (F0 m 38 ls [va_rf s0]) := by
  intro y2 y4 s0 h out hf H locs I ls hl
  unfold f_LL_exclude_L38 at hf
  refine hq_astore (r := s0) (i := 6) (lv' := [(6, va_rf s0), (2, .long y2), (4, .int y4)]) C.1.1 C.1.2.1 d_LL_exclude_38 hl (by decide) (by first | rfl | simp [hq_cat, hq_catI, hq_catL]) (fun ls hl => ?_)
  refine hq_aload C.1.1 C.1.2.1 d_LL_exclude_40 (lv_at hl 0 rfl) ?_
  refine hq_ifnonnull (tgt := 47) C.1.1 C.1.2.1 d_LL_exclude_42 (by decide) (fun c22 => ?_) (fun c22 => ?_)
  · rw [if_neg c22] at hf
    refine lv_lload_n C.1.1 C.1.2.1 d_LL_exclude_47 rfl (lv_at hl 1 rfl) ?_
    refine lv_lconst (v := 0) C.1.1 C.1.2.1 d_LL_exclude_48 (by decide) ?_
    refine W.lcmp C.1.1 C.1.2.1 d_LL_exclude_49 ?_
    refine lv_if_eq (tgt := 58) C.1.1 C.1.2.1 d_LL_exclude_50 (by decide) (fun c23 => ?_) (fun c23 => ?_)
    · rw [if_pos c23] at hf
      refine lv_bipush (v := -3) C.1.1 C.1.2.1 d_LL_exclude_58 (by decide) ?_
      cases hf
      exact hq_iret C I (by decide) (by decide) d_LL_exclude_60
    · rw [if_neg c23] at hf
      refine lv_iload C.1.1 C.1.2.1 d_LL_exclude_53 (lv_at hl 2 rfl) ?_
      refine lv_if_ne (tgt := 61) C.1.1 C.1.2.1 d_LL_exclude_55 (by decide) (fun c24 => ?_) (fun c24 => ?_)
      · rw [if_neg c24] at hf
        refine hq_aload C.1.1 C.1.2.1 d_LL_exclude_61 (lv_at hl 0 rfl) ?_
        replace hf := Option.bind_eq_some_iff.mp hf
        obtain ⟨x25, e26, hf⟩ := hf
        refine hq_getI C I F_LL_105 e26 d_LL_exclude_63 ?_
        refine lv_iconst (v := 3) C.1.1 C.1.2.1 d_LL_exclude_66 (by decide) ?_
        refine lv_icmp_lt (tgt := 73) C.1.1 C.1.2.1 d_LL_exclude_67 (by decide) (fun c27 => ?_) (fun c27 => ?_)
        · rw [if_pos c27] at hf
          refine hq_aload C.1.1 C.1.2.1 d_LL_exclude_73 (lv_at hl 0 rfl) ?_
          refine lv_lload_n C.1.1 C.1.2.1 d_LL_exclude_75 rfl (lv_at hl 1 rfl) ?_
          replace hf := Option.bind_eq_some_iff.mp hf
          obtain ⟨b30, e31, hf⟩ := hf
          obtain ⟨e31r, _, e31c⟩ := hp_o_inv e31
          replace hf := Option.bind_eq_some_iff.mp hf
          obtain ⟨q28, e29, hf⟩ := hf
          refine hq_callW gt_good C I hl.1 (k_DP_addExclusion l G B _ b30 y2 q28 e29) M_LL_108 e31c e31r ⟨rfl, rfl⟩ ⟨Nat.le_of_ble_eq_true rfl, Nat.le_of_ble_eq_true rfl⟩ rfl (Nat.le_of_ble_eq_true rfl) d_LL_exclude_76 ⟨Nat.le_of_ble_eq_true rfl, Nat.le_of_ble_eq_true rfl⟩ (fun H locs I => ?_)
          refine W.widen (k := 0) (n := 0) (by decide) (by decide) ?_
          refine lv_iconst (v := 0) C.1.1 C.1.2.1 d_LL_exclude_79 (by decide) ?_
          cases hf
          exact hq_iret C I (by decide) (by decide) d_LL_exclude_80
        · rw [if_neg c27] at hf
          refine lv_bipush (v := -2) C.1.1 C.1.2.1 d_LL_exclude_70 (by decide) ?_
          cases hf
          exact hq_iret C I (by decide) (by decide) d_LL_exclude_72
      · rw [if_pos c24] at hf
        refine lv_bipush (v := -3) C.1.1 C.1.2.1 d_LL_exclude_58 (by decide) ?_
        cases hf
        exact hq_iret C I (by decide) (by decide) d_LL_exclude_60
  · rw [if_pos c22] at hf
    refine lv_iconst (v := -1) C.1.1 C.1.2.1 d_LL_exclude_45 (by decide) ?_
    cases hf
    exact hq_iret C I (by decide) (by decide) d_LL_exclude_46
set_option maxRecDepth 100000 in
set_option maxHeartbeats 4000000 in
theorem k_LL_exclude (l : Launch) (G : hp_G) (B : Nat) (h : hp_H) (t0 : Nat) (p1 : Int32) (out : Int32 × hp_H) (hf : f_LL_exclude h t0 p1 = some out) : Met l y_LL_exclude (.code y_LL_exclude b_LL_exclude 7 ((Option.some Jvm.ClassFile.FieldType.int)) :: gt) ({ frames := 2, cells := 0, slots := 0, locals := 44 }) (hq_Pc G vwCl aTs B h [.ref t0, .int p1]) (hq_Q G vwCl B (some (.int out.1)) out.2) 0 0 (fun q => B ≤ q) := by
  refine hq_enter (nL := 7) (by decide +kernel) (Nat.le_of_ble_eq_true rfl) ?_
  intro p e s m args below meth c C I ls hl
  have hl : lv_has ls 7 [(0, va_rf (some t0)), (1, .int p1)] := hl
  unfold f_LL_exclude at hf
  refine hq_aload_n C.1.1 C.1.2.1 d_LL_exclude_0 rfl (lv_at hl 0 rfl) ?_
  replace hf := Option.bind_eq_some_iff.mp hf
  obtain ⟨x1, e2, hf⟩ := hf
  refine hq_getR C I F_LL_10 e2 d_LL_exclude_1 ?_
  replace hf := Option.bind_eq_some_iff.mp hf
  obtain ⟨b5, e6, hf⟩ := hf
  obtain ⟨e6r, _, e6c⟩ := hp_o_inv e6
  replace hf := Option.bind_eq_some_iff.mp hf
  obtain ⟨q3, e4, hf⟩ := hf
  refine hq_callW gt_good C I hl.1 (k_LN_takeName l G B _ b5 q3 e4) M_LL_98 e6c e6r ⟨rfl, rfl⟩ ⟨Nat.le_of_ble_eq_true rfl, Nat.le_of_ble_eq_true rfl⟩ rfl (Nat.le_of_ble_eq_true rfl) d_LL_exclude_4 ⟨Nat.le_of_ble_eq_true rfl, Nat.le_of_ble_eq_true rfl⟩ (fun H locs I => ?_)
  refine W.widen (k := 0) (n := 0) (by decide) (by decide) ?_
  refine lv_lstore_n (i := 2) (lv' := [(2, .long q3.1), (0, va_rf (some t0)), (1, .int p1)]) C.1.1 C.1.2.1 d_LL_exclude_7 rfl hl (by decide) (by first | rfl | simp [hq_cat, hq_catI, hq_catL]) (fun ls hl => ?_)
  refine hq_aload_n C.1.1 C.1.2.1 d_LL_exclude_8 rfl (lv_at hl 1 rfl) ?_
  replace hf := Option.bind_eq_some_iff.mp hf
  obtain ⟨x7, e8, hf⟩ := hf
  refine hq_getR C I F_LL_10 e8 d_LL_exclude_9 ?_
  replace hf := Option.bind_eq_some_iff.mp hf
  obtain ⟨b11, e12, hf⟩ := hf
  obtain ⟨e12r, _, e12c⟩ := hp_o_inv e12
  replace hf := Option.bind_eq_some_iff.mp hf
  obtain ⟨q9, e10, hf⟩ := hf
  refine hq_callW gt_good C I hl.1 (k_LN_finishReading l G B _ b11 q9 e10) M_LL_61 e12c e12r ⟨rfl, rfl⟩ ⟨Nat.le_of_ble_eq_true rfl, Nat.le_of_ble_eq_true rfl⟩ rfl (Nat.le_of_ble_eq_true rfl) d_LL_exclude_12 ⟨Nat.le_of_ble_eq_true rfl, Nat.le_of_ble_eq_true rfl⟩ (fun H locs I => ?_)
  refine W.widen (k := 0) (n := 0) (by decide) (by decide) ?_
  refine lv_istore (i := 4) (lv' := [(4, .int q9.1), (2, .long q3.1), (0, va_rf (some t0)), (1, .int p1)]) C.1.1 C.1.2.1 d_LL_exclude_15 hl (by decide) (by first | rfl | simp [hq_cat, hq_catI, hq_catL]) (fun ls hl => ?_)
  refine hq_aload_n C.1.1 C.1.2.1 d_LL_exclude_17 rfl (lv_at hl 2 rfl) ?_
  refine lv_iload_n C.1.1 C.1.2.1 d_LL_exclude_18 rfl (lv_at hl 3 rfl) ?_
  replace hf := Option.bind_eq_some_iff.mp hf
  obtain ⟨b15, e16, hf⟩ := hf
  obtain ⟨e16r, _, e16c⟩ := hp_o_inv e16
  cases e16r
  replace hf := Option.bind_eq_some_iff.mp hf
  obtain ⟨q13, e14, hf⟩ := hf
  refine hq_callW gt_good C I hl.1 (k_LL_artifactAt l G B _ t0 p1 q13 e14) M_LL_82 e16c rfl ⟨rfl, rfl⟩ ⟨Nat.le_of_ble_eq_true rfl, Nat.le_of_ble_eq_true rfl⟩ rfl (Nat.le_of_ble_eq_true rfl) d_LL_exclude_19 ⟨Nat.le_of_ble_eq_true rfl, Nat.le_of_ble_eq_true rfl⟩ (fun H locs I => ?_)
  refine W.widen (k := 0) (n := 0) (by decide) (by decide) ?_
  refine hq_astore (r := q13.1) (i := 5) (lv' := [(5, va_rf q13.1), (4, .int q9.1), (2, .long q3.1), (0, va_rf (some t0)), (1, .int p1)]) C.1.1 C.1.2.1 d_LL_exclude_22 hl (by decide) (by first | rfl | simp [hq_cat, hq_catI, hq_catL]) (fun ls hl => ?_)
  refine hq_aload C.1.1 C.1.2.1 d_LL_exclude_24 (lv_at hl 0 rfl) ?_
  refine hq_ifnonnull (tgt := 33) C.1.1 C.1.2.1 d_LL_exclude_26 (by decide) (fun c17 => ?_) (fun c17 => ?_)
  · rw [if_neg c17] at hf
    refine hq_aload C.1.1 C.1.2.1 d_LL_exclude_33 (lv_at hl 0 rfl) ?_
    replace hf := Option.bind_eq_some_iff.mp hf
    obtain ⟨b20, e21, hf⟩ := hf
    obtain ⟨e21r, _, e21c⟩ := hp_o_inv e21
    replace hf := Option.bind_eq_some_iff.mp hf
    obtain ⟨q18, e19, hf⟩ := hf
    refine hq_callW gt_good C I hl.1 (k_AR_lastDependency l G B _ b20 q18 e19) M_LL_101 e21c e21r ⟨rfl, rfl⟩ ⟨Nat.le_of_ble_eq_true rfl, Nat.le_of_ble_eq_true rfl⟩ rfl (Nat.le_of_ble_eq_true rfl) d_LL_exclude_35 ⟨Nat.le_of_ble_eq_true rfl, Nat.le_of_ble_eq_true rfl⟩ (fun H locs I => ?_)
    refine W.widen (k := 0) (n := 0) (by decide) (by decide) ?_
    refine W.widen (k := 0) (n := 0) (by decide) (by decide) ?_
    exact k_LL_exclude_L38 C q3.1 q9.1 q18.1 q18.2 _ hf _ _ I ls (lv_sub hl [2, 1] rfl)
  · rw [if_pos c17] at hf
    refine lv_null C.1.1 C.1.2.1 d_LL_exclude_29 ?_
    refine lv_goto (tgt := 38) C.1.1 C.1.2.1 d_LL_exclude_30 (by decide) ?_
    refine W.widen (k := 0) (n := 0) (by decide) (by decide) ?_
    exact k_LL_exclude_L38 C q3.1 q9.1 none q13.2 _ hf _ _ I ls (lv_sub hl [2, 1] rfl)
set_option maxRecDepth 100000 in
set_option maxHeartbeats 4000000 in
theorem k_LL_isClass (l : Launch) (G : hp_G) (B : Nat) (h : hp_H) (p0 : Int32) (out : Int32 × hp_H) (hf : f_LL_isClass h p0 = some out) : Met l y_LL_isClass (.code y_LL_isClass b_LL_isClass 1 ((Option.some Jvm.ClassFile.FieldType.boolean)) :: gt) ({ frames := 0, cells := 0, slots := 0, locals := 0 }) (hq_Pc G vwCl aTs B h [.int p0]) (hq_Q G vwCl B (some (.int out.1)) out.2) 0 0 (fun q => B ≤ q) := by
  refine hq_enter (nL := 1) (by decide +kernel) (Nat.le_of_ble_eq_true rfl) ?_
  intro p e s m args below meth c C I ls hl
  have hl : lv_has ls 1 [(0, .int p0)] := hl
  unfold f_LL_isClass at hf
  refine lv_iload_n C.1.1 C.1.2.1 d_LL_isClass_0 rfl (lv_at hl 0 rfl) ?_
  refine lv_if_lt (tgt := 14) C.1.1 C.1.2.1 d_LL_isClass_1 (by decide) (fun c1 => ?_) (fun c1 => ?_)
  · rw [if_pos c1] at hf
    refine lv_iconst (v := 0) C.1.1 C.1.2.1 d_LL_isClass_14 (by decide) ?_
    cases hf
    exact hq_zret C I (hp_z_nar (x := 0) (Or.inl rfl)).1 (by decide) (by decide) d_LL_isClass_15
  · rw [if_neg c1] at hf
    refine lv_iload_n C.1.1 C.1.2.1 d_LL_isClass_4 rfl (lv_at hl 0 rfl) ?_
    refine lv_bipush (v := 32) C.1.1 C.1.2.1 d_LL_isClass_5 (by decide) ?_
    refine lv_icmp_ge (tgt := 14) C.1.1 C.1.2.1 d_LL_isClass_7 (by decide) (fun c2 => ?_) (fun c2 => ?_)
    · rw [if_pos c2] at hf
      refine lv_iconst (v := 0) C.1.1 C.1.2.1 d_LL_isClass_14 (by decide) ?_
      cases hf
      exact hq_zret C I (hp_z_nar (x := 0) (Or.inl rfl)).1 (by decide) (by decide) d_LL_isClass_15
    · rw [if_neg c2] at hf
      refine lv_iconst (v := 1) C.1.1 C.1.2.1 d_LL_isClass_10 (by decide) ?_
      refine lv_goto (tgt := 15) C.1.1 C.1.2.1 d_LL_isClass_11 (by decide) ?_
      cases hf
      exact hq_zret C I (hp_z_nar (x := 1) (Or.inr rfl)).1 (by decide) (by decide) d_LL_isClass_15
set_option maxRecDepth 100000 in
set_option maxHeartbeats 4000000 in
theorem k_AR_setClass (l : Launch) (G : hp_G) (B : Nat) (h : hp_H) (t0 : Nat) (p1 : Int32) (p2 : Int32) (out : hp_H) (hf : f_AR_setClass h t0 p1 p2 = some out) : Met l y_AR_setClass (.code y_AR_setClass b_AR_setClass 3 ((Option.none : Option Jvm.ClassFile.FieldType)) :: gt) ({ frames := 0, cells := 0, slots := 0, locals := 0 }) (hq_Pc G vwCl aTs B h [.ref t0, .int p1, .int p2]) (hq_Q G vwCl B none out) 0 0 (fun q => B ≤ q) := by
  refine hq_enter (nL := 3) (by decide +kernel) (Nat.le_of_ble_eq_true rfl) ?_
  intro p e s m args below meth c C I ls hl
  have hl : lv_has ls 3 [(0, va_rf (some t0)), (1, .int p1), (2, .int p2)] := hl
  unfold f_AR_setClass at hf
  refine hq_aload_n C.1.1 C.1.2.1 d_AR_setClass_0 rfl (lv_at hl 0 rfl) ?_
  refine lv_iload_n C.1.1 C.1.2.1 d_AR_setClass_1 rfl (lv_at hl 2 rfl) ?_
  refine lv_if_eq (tgt := 16) C.1.1 C.1.2.1 d_AR_setClass_2 (by decide) (fun c1 => ?_) (fun c1 => ?_)
  · rw [if_pos c1] at hf
    refine hq_aload_n C.1.1 C.1.2.1 d_AR_setClass_16 rfl (lv_at hl 0 rfl) ?_
    replace hf := Option.bind_eq_some_iff.mp hf
    obtain ⟨x2, e3, hf⟩ := hf
    refine hq_getI C I F_AR_21 e3 d_AR_setClass_17 ?_
    refine lv_iconst (v := 1) C.1.1 C.1.2.1 d_AR_setClass_20 (by decide) ?_
    refine lv_iload_n C.1.1 C.1.2.1 d_AR_setClass_21 rfl (lv_at hl 1 rfl) ?_
    refine lv_ishl C.1.1 C.1.2.1 d_AR_setClass_22 ?_
    refine lv_iconst (v := -1) C.1.1 C.1.2.1 d_AR_setClass_23 (by decide) ?_
    refine lv_ixor C.1.1 C.1.2.1 d_AR_setClass_24 ?_
    refine lv_iand C.1.1 C.1.2.1 d_AR_setClass_25 ?_
    replace hf := Option.bind_eq_some_iff.mp hf
    obtain ⟨h4, e5, hf⟩ := hf
    refine hq_put C I F_AR_21 e5 rfl rfl d_AR_setClass_26 (fun H locs I => ?_)
    cases hf
    exact hq_vret C I (by decide) (by decide) d_AR_setClass_29
  · rw [if_neg c1] at hf
    refine hq_aload_n C.1.1 C.1.2.1 d_AR_setClass_5 rfl (lv_at hl 0 rfl) ?_
    replace hf := Option.bind_eq_some_iff.mp hf
    obtain ⟨x6, e7, hf⟩ := hf
    refine hq_getI C I F_AR_21 e7 d_AR_setClass_6 ?_
    refine lv_iconst (v := 1) C.1.1 C.1.2.1 d_AR_setClass_9 (by decide) ?_
    refine lv_iload_n C.1.1 C.1.2.1 d_AR_setClass_10 rfl (lv_at hl 1 rfl) ?_
    refine lv_ishl C.1.1 C.1.2.1 d_AR_setClass_11 ?_
    refine lv_ior C.1.1 C.1.2.1 d_AR_setClass_12 ?_
    refine lv_goto (tgt := 26) C.1.1 C.1.2.1 d_AR_setClass_13 (by decide) ?_
    replace hf := Option.bind_eq_some_iff.mp hf
    obtain ⟨h8, e9, hf⟩ := hf
    refine hq_put C I F_AR_21 e9 rfl rfl d_AR_setClass_26 (fun H locs I => ?_)
    cases hf
    exact hq_vret C I (by decide) (by decide) d_AR_setClass_29
set_option maxRecDepth 100000 in
set_option maxHeartbeats 4000000 in
theorem k_LL_pack (l : Launch) (G : hp_G) (B : Nat) (h : hp_H) (t0 : Nat) (p1 : Int32) (p2 : Int32) (p3 : Int32) (out : Int32 × hp_H) (hf : f_LL_pack h t0 p1 p2 p3 = some out) : Met l y_LL_pack (.code y_LL_pack b_LL_pack 5 ((Option.some Jvm.ClassFile.FieldType.int)) :: gt) ({ frames := 1, cells := 0, slots := 0, locals := 22 }) (hq_Pc G vwCl aTs B h [.ref t0, .int p1, .int p2, .int p3]) (hq_Q G vwCl B (some (.int out.1)) out.2) 0 0 (fun q => B ≤ q) := by
  refine hq_enter (nL := 5) (by decide +kernel) (Nat.le_of_ble_eq_true rfl) ?_
  intro p e s m args below meth c C I ls hl
  have hl : lv_has ls 5 [(0, va_rf (some t0)), (1, .int p1), (2, .int p2), (3, .int p3)] := hl
  unfold f_LL_pack at hf
  refine hq_aload_n C.1.1 C.1.2.1 d_LL_pack_0 rfl (lv_at hl 0 rfl) ?_
  refine lv_iload_n C.1.1 C.1.2.1 d_LL_pack_1 rfl (lv_at hl 1 rfl) ?_
  replace hf := Option.bind_eq_some_iff.mp hf
  obtain ⟨b3, e4, hf⟩ := hf
  obtain ⟨e4r, _, e4c⟩ := hp_o_inv e4
  cases e4r
  replace hf := Option.bind_eq_some_iff.mp hf
  obtain ⟨q1, e2, hf⟩ := hf
  refine hq_callW gt_good C I hl.1 (k_LL_artifactAt l G B _ t0 p1 q1 e2) M_LL_82 e4c rfl ⟨rfl, rfl⟩ ⟨Nat.le_of_ble_eq_true rfl, Nat.le_of_ble_eq_true rfl⟩ rfl (Nat.le_of_ble_eq_true rfl) d_LL_pack_2 ⟨Nat.le_of_ble_eq_true rfl, Nat.le_of_ble_eq_true rfl⟩ (fun H locs I => ?_)
  refine W.widen (k := 0) (n := 0) (by decide) (by decide) ?_
  refine hq_astore (r := q1.1) (i := 4) (lv' := [(4, va_rf q1.1), (0, va_rf (some t0)), (1, .int p1), (2, .int p2), (3, .int p3)]) C.1.1 C.1.2.1 d_LL_pack_5 hl (by decide) (by first | rfl | simp [hq_cat, hq_catI, hq_catL]) (fun ls hl => ?_)
  refine hq_aload C.1.1 C.1.2.1 d_LL_pack_7 (lv_at hl 0 rfl) ?_
  refine hq_ifnull (tgt := 19) C.1.1 C.1.2.1 d_LL_pack_9 (by decide) (fun c5 => ?_) (fun c5 => ?_)
  · rw [if_pos c5] at hf
    refine lv_iconst (v := -1) C.1.1 C.1.2.1 d_LL_pack_19 (by decide) ?_
    cases hf
    exact hq_iret C I (by decide) (by decide) d_LL_pack_20
  · rw [if_neg c5] at hf
    refine lv_iload_n C.1.1 C.1.2.1 d_LL_pack_12 rfl (lv_at hl 3 rfl) ?_
    replace hf := Option.bind_eq_some_iff.mp hf
    obtain ⟨q6, e7, hf⟩ := hf
    refine hq_callS gt_good C I hl.1 (k_LL_isClass l G B _ p2 q6 e7) M_LL_112 ⟨rfl, rfl⟩ ⟨Nat.le_of_ble_eq_true rfl, Nat.le_of_ble_eq_true rfl⟩ rfl (Nat.le_of_ble_eq_true rfl) d_LL_pack_13 ⟨Nat.le_of_ble_eq_true rfl, Nat.le_of_ble_eq_true rfl⟩ (fun H locs I => ?_)
    refine W.widen (k := 0) (n := 0) (by decide) (by decide) ?_
    refine lv_if_ne (tgt := 21) C.1.1 C.1.2.1 d_LL_pack_16 (by decide) (fun c8 => ?_) (fun c8 => ?_)
    · rw [if_neg c8] at hf
      refine hq_aload C.1.1 C.1.2.1 d_LL_pack_21 (lv_at hl 0 rfl) ?_
      refine lv_iload_n C.1.1 C.1.2.1 d_LL_pack_23 rfl (lv_at hl 3 rfl) ?_
      refine lv_iload_n C.1.1 C.1.2.1 d_LL_pack_24 rfl (lv_at hl 4 rfl) ?_
      replace hf := Option.bind_eq_some_iff.mp hf
      obtain ⟨b11, e12, hf⟩ := hf
      obtain ⟨e12r, _, e12c⟩ := hp_o_inv e12
      replace hf := Option.bind_eq_some_iff.mp hf
      obtain ⟨q9, e10, hf⟩ := hf
      refine hq_callW gt_good C I hl.1 (k_AR_setClass l G B _ b11 p2 p3 q9 e10) M_LL_116 e12c e12r ⟨rfl, rfl⟩ ⟨Nat.le_of_ble_eq_true rfl, Nat.le_of_ble_eq_true rfl⟩ rfl (Nat.le_of_ble_eq_true rfl) d_LL_pack_25 ⟨Nat.le_of_ble_eq_true rfl, Nat.le_of_ble_eq_true rfl⟩ (fun H locs I => ?_)
      refine W.widen (k := 0) (n := 0) (by decide) (by decide) ?_
      refine lv_iconst (v := 0) C.1.1 C.1.2.1 d_LL_pack_28 (by decide) ?_
      cases hf
      exact hq_iret C I (by decide) (by decide) d_LL_pack_29
    · rw [if_pos c8] at hf
      refine lv_iconst (v := -1) C.1.1 C.1.2.1 d_LL_pack_19 (by decide) ?_
      cases hf
      exact hq_iret C I (by decide) (by decide) d_LL_pack_20
set_option maxRecDepth 100000 in
set_option maxHeartbeats 4000000 in
theorem k_LL_retire (l : Launch) (G : hp_G) (B : Nat) (h : hp_H) (t0 : Nat) (p1 : Int32) (out : Int32 × hp_H) (hf : f_LL_retire h t0 p1 = some out) : Met l y_LL_retire (.code y_LL_retire b_LL_retire 3 ((Option.some Jvm.ClassFile.FieldType.int)) :: gt) ({ frames := 1, cells := 0, slots := 0, locals := 21 }) (hq_Pc G vwCl aTs B h [.ref t0, .int p1]) (hq_Q G vwCl B (some (.int out.1)) out.2) 0 0 (fun q => B ≤ q) := by
  refine hq_enter (nL := 3) (by decide +kernel) (Nat.le_of_ble_eq_true rfl) ?_
  intro p e s m args below meth c C I ls hl
  have hl : lv_has ls 3 [(0, va_rf (some t0)), (1, .int p1)] := hl
  unfold f_LL_retire at hf
  refine hq_aload_n C.1.1 C.1.2.1 d_LL_retire_0 rfl (lv_at hl 0 rfl) ?_
  refine lv_iload_n C.1.1 C.1.2.1 d_LL_retire_1 rfl (lv_at hl 1 rfl) ?_
  replace hf := Option.bind_eq_some_iff.mp hf
  obtain ⟨b3, e4, hf⟩ := hf
  obtain ⟨e4r, _, e4c⟩ := hp_o_inv e4
  cases e4r
  replace hf := Option.bind_eq_some_iff.mp hf
  obtain ⟨q1, e2, hf⟩ := hf
  refine hq_callW gt_good C I hl.1 (k_LL_artifactAt l G B _ t0 p1 q1 e2) M_LL_82 e4c rfl ⟨rfl, rfl⟩ ⟨Nat.le_of_ble_eq_true rfl, Nat.le_of_ble_eq_true rfl⟩ rfl (Nat.le_of_ble_eq_true rfl) d_LL_retire_2 ⟨Nat.le_of_ble_eq_true rfl, Nat.le_of_ble_eq_true rfl⟩ (fun H locs I => ?_)
  refine W.widen (k := 0) (n := 0) (by decide) (by decide) ?_
  refine hq_astore_n (r := q1.1) (i := 2) (lv' := [(2, va_rf q1.1), (0, va_rf (some t0)), (1, .int p1)]) C.1.1 C.1.2.1 d_LL_retire_5 rfl hl (by decide) (by first | rfl | simp [hq_cat, hq_catI, hq_catL]) (fun ls hl => ?_)
  refine hq_aload_n C.1.1 C.1.2.1 d_LL_retire_6 rfl (lv_at hl 0 rfl) ?_
  refine hq_ifnull (tgt := 17) C.1.1 C.1.2.1 d_LL_retire_7 (by decide) (fun c5 => ?_) (fun c5 => ?_)
  · rw [if_pos c5] at hf
    refine lv_iconst (v := -1) C.1.1 C.1.2.1 d_LL_retire_17 (by decide) ?_
    cases hf
    exact hq_iret C I (by decide) (by decide) d_LL_retire_18
  · rw [if_neg c5] at hf
    refine hq_aload_n C.1.1 C.1.2.1 d_LL_retire_10 rfl (lv_at hl 0 rfl) ?_
    replace hf := Option.bind_eq_some_iff.mp hf
    obtain ⟨x6, e7, hf⟩ := hf
    refine hq_getI C I F_LL_120 e7 d_LL_retire_11 ?_
    refine lv_if_eq (tgt := 19) C.1.1 C.1.2.1 d_LL_retire_14 (by decide) (fun c8 => ?_) (fun c8 => ?_)
    · rw [if_pos c8] at hf
      refine hq_aload_n C.1.1 C.1.2.1 d_LL_retire_19 rfl (lv_at hl 0 rfl) ?_
      refine lv_iconst (v := 1) C.1.1 C.1.2.1 d_LL_retire_20 (by decide) ?_
      replace hf := Option.bind_eq_some_iff.mp hf
      obtain ⟨h9, e10, hf⟩ := hf
      refine hq_put C I F_LL_120 e10 (hp_z_nar (x := 1) (Or.inr rfl)).1 (hp_z_nar (x := 1) (Or.inr rfl)).2 d_LL_retire_21 (fun H locs I => ?_)
      refine lv_iconst (v := 0) C.1.1 C.1.2.1 d_LL_retire_24 (by decide) ?_
      cases hf
      exact hq_iret C I (by decide) (by decide) d_LL_retire_25
    · rw [if_neg c8] at hf
      refine lv_iconst (v := -1) C.1.1 C.1.2.1 d_LL_retire_17 (by decide) ?_
      cases hf
      exact hq_iret C I (by decide) (by decide) d_LL_retire_18
set_option maxRecDepth 100000 in
set_option maxHeartbeats 4000000 in
theorem k_LL_compare (l : Launch) (G : hp_G) (B : Nat) (h : hp_H) (t0 : Nat) (out : Int32 × hp_H) (hf : f_LL_compare h t0 = some out) : Met l y_LL_compare (.code y_LL_compare b_LL_compare 5 ((Option.some Jvm.ClassFile.FieldType.int)) :: gt) ({ frames := 3, cells := 4, slots := 26, locals := 70 }) (hq_Pc G vwCl aTs B h [.ref t0]) (hq_Q G vwCl B (some (.int out.1)) out.2) 4 26 (fun q => B ≤ q) := by
  refine hq_enter (nL := 5) (by decide +kernel) (Nat.le_of_ble_eq_true rfl) ?_
  intro p e s m args below meth c C I ls hl
  have hl : lv_has ls 5 [(0, va_rf (some t0))] := hl
  unfold f_LL_compare at hf
  refine hq_aload_n C.1.1 C.1.2.1 d_LL_compare_0 rfl (lv_at hl 0 rfl) ?_
  replace hf := Option.bind_eq_some_iff.mp hf
  obtain ⟨x1, e2, hf⟩ := hf
  refine hq_getR C I F_LL_10 e2 d_LL_compare_1 ?_
  replace hf := Option.bind_eq_some_iff.mp hf
  obtain ⟨b5, e6, hf⟩ := hf
  obtain ⟨e6r, _, e6c⟩ := hp_o_inv e6
  replace hf := Option.bind_eq_some_iff.mp hf
  obtain ⟨q3, e4, hf⟩ := hf
  refine hq_callW gt_good C I hl.1 (k_LN_takeVersion l G B _ b5 q3 e4) M_LL_53 e6c e6r ⟨rfl, rfl⟩ ⟨Nat.le_of_ble_eq_true rfl, Nat.le_of_ble_eq_true rfl⟩ rfl (Nat.le_of_ble_eq_true rfl) d_LL_compare_4 ⟨Nat.le_of_ble_eq_true rfl, Nat.le_of_ble_eq_true rfl⟩ (fun H locs I => ?_)
  refine W.widen (k := 2) (n := 13) (by decide) (by decide) ?_
  refine hq_astore_n (r := q3.1) (i := 1) (lv' := [(1, va_rf q3.1), (0, va_rf (some t0))]) C.1.1 C.1.2.1 d_LL_compare_7 rfl hl (by decide) (by first | rfl | simp [hq_cat, hq_catI, hq_catL]) (fun ls hl => ?_)
  refine hq_aload_n C.1.1 C.1.2.1 d_LL_compare_8 rfl (lv_at hl 1 rfl) ?_
  replace hf := Option.bind_eq_some_iff.mp hf
  obtain ⟨x7, e8, hf⟩ := hf
  refine hq_getR C I F_LL_10 e8 d_LL_compare_9 ?_
  refine lv_bipush (v := 58) C.1.1 C.1.2.1 d_LL_compare_12 (by decide) ?_
  replace hf := Option.bind_eq_some_iff.mp hf
  obtain ⟨b11, e12, hf⟩ := hf
  obtain ⟨e12r, _, e12c⟩ := hp_o_inv e12
  replace hf := Option.bind_eq_some_iff.mp hf
  obtain ⟨q9, e10, hf⟩ := hf
  refine hq_callW gt_good C I hl.1 (k_LN_take l G B _ b11 (58 : Int32) q9 e10) M_LL_124 e12c e12r ⟨rfl, rfl⟩ ⟨Nat.le_of_ble_eq_true rfl, Nat.le_of_ble_eq_true rfl⟩ rfl (Nat.le_of_ble_eq_true rfl) d_LL_compare_14 ⟨Nat.le_of_ble_eq_true rfl, Nat.le_of_ble_eq_true rfl⟩ (fun H locs I => ?_)
  refine W.widen (k := 2) (n := 13) (by decide) (by decide) ?_
  refine lv_istore_n (i := 2) (lv' := [(2, .int q9.1), (1, va_rf q3.1), (0, va_rf (some t0))]) C.1.1 C.1.2.1 d_LL_compare_17 rfl hl (by decide) (by first | rfl | simp [hq_cat, hq_catI, hq_catL]) (fun ls hl => ?_)
  refine hq_aload_n C.1.1 C.1.2.1 d_LL_compare_18 rfl (lv_at hl 2 rfl) ?_
  replace hf := Option.bind_eq_some_iff.mp hf
  obtain ⟨x13, e14, hf⟩ := hf
  refine hq_getR C I F_LL_10 e14 d_LL_compare_19 ?_
  replace hf := Option.bind_eq_some_iff.mp hf
  obtain ⟨b17, e18, hf⟩ := hf
  obtain ⟨e18r, _, e18c⟩ := hp_o_inv e18
  replace hf := Option.bind_eq_some_iff.mp hf
  obtain ⟨q15, e16, hf⟩ := hf
  refine hq_callW gt_good C I hl.1 (k_LN_takeVersion l G B _ b17 q15 e16) M_LL_53 e18c e18r ⟨rfl, rfl⟩ ⟨Nat.le_of_ble_eq_true rfl, Nat.le_of_ble_eq_true rfl⟩ rfl (Nat.le_of_ble_eq_true rfl) d_LL_compare_22 ⟨Nat.le_of_ble_eq_true rfl, Nat.le_of_ble_eq_true rfl⟩ (fun H locs I => ?_)
  refine W.widen (k := 4) (n := 26) (by decide) (by decide) ?_
  refine hq_astore_n (r := q15.1) (i := 3) (lv' := [(3, va_rf q15.1), (2, .int q9.1), (1, va_rf q3.1), (0, va_rf (some t0))]) C.1.1 C.1.2.1 d_LL_compare_25 rfl hl (by decide) (by first | rfl | simp [hq_cat, hq_catI, hq_catL]) (fun ls hl => ?_)
  refine hq_aload_n C.1.1 C.1.2.1 d_LL_compare_26 rfl (lv_at hl 3 rfl) ?_
  replace hf := Option.bind_eq_some_iff.mp hf
  obtain ⟨x19, e20, hf⟩ := hf
  refine hq_getR C I F_LL_10 e20 d_LL_compare_27 ?_
  replace hf := Option.bind_eq_some_iff.mp hf
  obtain ⟨b23, e24, hf⟩ := hf
  obtain ⟨e24r, _, e24c⟩ := hp_o_inv e24
  replace hf := Option.bind_eq_some_iff.mp hf
  obtain ⟨q21, e22, hf⟩ := hf
  refine hq_callW gt_good C I hl.1 (k_LN_finishReading l G B _ b23 q21 e22) M_LL_61 e24c e24r ⟨rfl, rfl⟩ ⟨Nat.le_of_ble_eq_true rfl, Nat.le_of_ble_eq_true rfl⟩ rfl (Nat.le_of_ble_eq_true rfl) d_LL_compare_30 ⟨Nat.le_of_ble_eq_true rfl, Nat.le_of_ble_eq_true rfl⟩ (fun H locs I => ?_)
  refine W.widen (k := 4) (n := 26) (by decide) (by decide) ?_
  refine lv_istore (i := 4) (lv' := [(4, .int q21.1), (3, va_rf q15.1), (2, .int q9.1), (1, va_rf q3.1), (0, va_rf (some t0))]) C.1.1 C.1.2.1 d_LL_compare_33 hl (by decide) (by first | rfl | simp [hq_cat, hq_catI, hq_catL]) (fun ls hl => ?_)
  refine hq_aload_n C.1.1 C.1.2.1 d_LL_compare_35 rfl (lv_at hl 3 rfl) ?_
  refine hq_ifnull (tgt := 52) C.1.1 C.1.2.1 d_LL_compare_36 (by decide) (fun c25 => ?_) (fun c25 => ?_)
  · rw [if_pos c25] at hf
    refine lv_bipush (v := -3) C.1.1 C.1.2.1 d_LL_compare_52 (by decide) ?_
    cases hf
    exact hq_iret C I (by decide) (by decide) d_LL_compare_54
  · rw [if_neg c25] at hf
    refine lv_iload_n C.1.1 C.1.2.1 d_LL_compare_39 rfl (lv_at hl 2 rfl) ?_
    refine lv_if_eq (tgt := 52) C.1.1 C.1.2.1 d_LL_compare_40 (by decide) (fun c26 => ?_) (fun c26 => ?_)
    · rw [if_pos c26] at hf
      refine lv_bipush (v := -3) C.1.1 C.1.2.1 d_LL_compare_52 (by decide) ?_
      cases hf
      exact hq_iret C I (by decide) (by decide) d_LL_compare_54
    · rw [if_neg c26] at hf
      refine hq_aload_n C.1.1 C.1.2.1 d_LL_compare_43 rfl (lv_at hl 1 rfl) ?_
      refine hq_ifnull (tgt := 52) C.1.1 C.1.2.1 d_LL_compare_44 (by decide) (fun c27 => ?_) (fun c27 => ?_)
      · rw [if_pos c27] at hf
        refine lv_bipush (v := -3) C.1.1 C.1.2.1 d_LL_compare_52 (by decide) ?_
        cases hf
        exact hq_iret C I (by decide) (by decide) d_LL_compare_54
      · rw [if_neg c27] at hf
        refine lv_iload C.1.1 C.1.2.1 d_LL_compare_47 (lv_at hl 0 rfl) ?_
        refine lv_if_ne (tgt := 55) C.1.1 C.1.2.1 d_LL_compare_49 (by decide) (fun c28 => ?_) (fun c28 => ?_)
        · rw [if_neg c28] at hf
          refine lv_iconst (v := 3) C.1.1 C.1.2.1 d_LL_compare_55 (by decide) ?_
          refine hq_aload_n C.1.1 C.1.2.1 d_LL_compare_56 rfl (lv_at hl 3 rfl) ?_
          refine hq_aload_n C.1.1 C.1.2.1 d_LL_compare_57 rfl (lv_at hl 1 rfl) ?_
          replace hf := Option.bind_eq_some_iff.mp hf
          obtain ⟨b31, e32, hf⟩ := hf
          obtain ⟨e32r, _, e32c⟩ := hp_o_inv e32
          replace hf := Option.bind_eq_some_iff.mp hf
          obtain ⟨q29, e30, hf⟩ := hf
          refine hq_callW gt_good C I hl.1 (k_VS_orderAgainst l G B _ b31 q15.1 q29 e30) M_LL_128 e32c e32r ⟨rfl, rfl⟩ ⟨Nat.le_of_ble_eq_true rfl, Nat.le_of_ble_eq_true rfl⟩ rfl (Nat.le_of_ble_eq_true rfl) d_LL_compare_58 ⟨Nat.le_of_ble_eq_true rfl, Nat.le_of_ble_eq_true rfl⟩ (fun H locs I => ?_)
          refine W.widen (k := 4) (n := 26) (by decide) (by decide) ?_
          refine lv_iadd C.1.1 C.1.2.1 d_LL_compare_61 ?_
          cases hf
          exact hq_iret C I (by decide) (by decide) d_LL_compare_62
        · rw [if_pos c28] at hf
          refine lv_bipush (v := -3) C.1.1 C.1.2.1 d_LL_compare_52 (by decide) ?_
          cases hf
          exact hq_iret C I (by decide) (by decide) d_LL_compare_54
