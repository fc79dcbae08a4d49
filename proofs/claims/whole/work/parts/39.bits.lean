/-! ===== counting bits ===== -/
def cB (P : Nat → Bool) : Nat → Nat → Nat
  | 0, _ => 0
  | n + 1, e => (if P e then 1 else 0) + cB P n (e + 1)
theorem cB_le (P : Nat → Bool) : ∀ (n e : Nat), cB P n e ≤ n
  | 0, e => Nat.le_refl _
  | n + 1, e => by
    rw [cB]
    have := cB_le P n (e + 1)
    split <;> omega
theorem cB_congr {P Q : Nat → Bool} : ∀ (n e : Nat), (∀ j, e ≤ j → j < e + n → P j = Q j) → cB P n e = cB Q n e
  | 0, e, _ => rfl
  | n + 1, e, h => by rw [cB, cB, h e (Nat.le_refl _) (by omega), cB_congr n (e + 1) (fun j j1 j2 => h j (by omega) (by omega))]
theorem cB_shift (P : Nat → Bool) (k : Nat) : ∀ (n e : Nat), cB P n (k + e) = cB (fun j => P (k + j)) n e
  | 0, e => rfl
  | n + 1, e => by rw [cB, cB, show k + e + 1 = k + (e + 1) by omega, cB_shift P k n (e + 1)]
theorem cB_add (P : Nat → Bool) (m : Nat) : ∀ (n e : Nat), cB P (n + m) e = cB P n e + cB P m (e + n)
  | 0, e => by rw [Nat.zero_add, cB, Nat.zero_add]; rfl
  | n + 1, e => by rw [show n + 1 + m = (n + m) + 1 by omega, cB, cB, cB_add P m n (e + 1), show e + 1 + n = e + (n + 1) by omega, Nat.add_assoc]
def uN (v : Int32) : Nat := v.toBitVec.toNat
theorem uN_lt (v : Int32) : uN v < 2 ^ 32 := v.toBitVec.isLt
theorem uN_and (a b : Int32) : uN (a &&& b) = uN a &&& uN b := by
  unfold uN; rw [Int32.toBitVec_and, BitVec.toNat_and]
theorem uN_add (a b : Int32) : uN (a + b) = (uN a + uN b) % 2 ^ 32 := by
  unfold uN; rw [Int32.toBitVec_add, BitVec.toNat_add]
theorem uN_sub (a b : Int32) : uN (a - b) = (2 ^ 32 - uN b + uN a) % 2 ^ 32 := by
  unfold uN; rw [Int32.toBitVec_sub, BitVec.toNat_sub]
theorem uN_shr (a : Int32) (k : UInt32) : uN ((a.toUInt32 >>> k).toInt32) = uN a >>> (k.toNat % 32) := by
  show (a.toUInt32 >>> k).toNat = a.toUInt32.toNat >>> (k.toNat % 32)
  exact UInt32.toNat_shiftRight _ _
theorem uN_nI {v : Int32} {m : Nat} (h : uN v = m) : v = nI m := by
  refine Int32.toBitVec_inj.mp (BitVec.eq_of_toNat_eq ?_)
  show uN v = (BitVec.ofNat 32 m).toNat
  rw [BitVec.toNat_ofNat, h, Nat.mod_eq_of_lt (h ▸ uN_lt v)]
theorem bt_uN (v : Int32) (j : Nat) : bt v j = (uN v).testBit j := rfl
theorem and_split {b m q M : Nat} (hb : b < 256) (hm : m < 256) : (b + 256 * q) &&& (m + 256 * M) = (b &&& m) + 256 * (q &&& M) := by
  have hbm : b &&& m < 256 := Nat.lt_of_le_of_lt Nat.and_le_left hb
  refine Nat.eq_of_testBit_eq fun j => ?_
  rw [Nat.testBit_and, Nat.add_comm b, Nat.add_comm m, Nat.add_comm (b &&& m), show (256 : Nat) = 2 ^ 8 from rfl, Nat.testBit_two_pow_mul_add q hb, Nat.testBit_two_pow_mul_add M hm, Nat.testBit_two_pow_mul_add _ hbm]
  split <;> rw [Nat.testBit_and]
def t1 (b : Nat) : Nat := b - ((b / 2) &&& 85)
def t2 (a : Nat) : Nat := (a &&& 51) + ((a / 4) &&& 51)
def t3 (c : Nat) : Nat := (c + c / 16) &&& 15
theorem tb1 : ∀ b, b < 256 → ∀ r, r < 2 → (b / 2 + 128 * r) &&& 85 = (b / 2) &&& 85 := by decide +kernel
theorem tb1' : ∀ b, b < 256 → (b / 2) &&& 85 ≤ b ∧ t1 b < 256 := by decide +kernel
theorem tb2 : ∀ b, b < 256 → ∀ r, r < 4 → (b / 4 + 64 * r) &&& 51 = (b / 4) &&& 51 := by decide +kernel
theorem tb2' : ∀ b, b < 256 → t2 b < 256 ∧ t2 (t1 b) ≤ 68 ∧ t2 (t1 b) % 16 ≤ 4 := by decide +kernel
theorem tb3 : ∀ b, b < 69 → ∀ r, r < 5 → (b + b / 16 + 16 * r) &&& 15 = t3 b ∧ b + b / 16 + 16 * r < 256 := by decide +kernel
theorem tb4 : ∀ b, b < 256 → t3 (t2 (t1 b)) = cB (fun j => b.testBit j) 8 0 := by decide +kernel
/-- the four stages, a byte at a time -/
theorem st1 {b q M : Nat} (hb : b < 256) : ((b + 256 * q) / 2) &&& (85 + 256 * M) = ((b / 2) &&& 85) + 256 * ((q / 2) &&& M) := by
  rw [show (b + 256 * q) / 2 = (b / 2 + 128 * (q % 2)) + 256 * (q / 2) by omega, and_split (by omega) (by decide), tb1 b hb (q % 2) (by omega)]
theorem st2 {b q M : Nat} (hb : b < 256) : ((b + 256 * q) / 4) &&& (51 + 256 * M) = ((b / 4) &&& 51) + 256 * ((q / 4) &&& M) := by
  rw [show (b + 256 * q) / 4 = (b / 4 + 64 * (q % 4)) + 256 * (q / 4) by omega, and_split (by omega) (by decide), tb2 b hb (q % 4) (by omega)]
theorem st3 {b q M : Nat} (hb : b < 69) (hq : q % 16 < 5) : ((b + 256 * q) + (b + 256 * q) / 16) &&& (15 + 256 * M) = t3 b + 256 * ((q + q / 16) &&& M) := by
  obtain ⟨h1, h2⟩ := tb3 b hb (q % 16) hq
  rw [show (b + 256 * q) + (b + 256 * q) / 16 = (b + b / 16 + 16 * (q % 16)) + 256 * (q + q / 16) by omega, and_split h2 (by decide), h1]
/-- Integer.bitCount's own sum -/
theorem cnt32 {X b0 b1 b2 b3 : Nat} (h0 : b0 < 256) (h1 : b1 < 256) (h2 : b2 < 256) (h3 : b3 < 256) (hX : X = b0 + 256 * (b1 + 256 * (b2 + 256 * b3))) :
    let A := X - ((X / 2) &&& 1431655765)
    let B := (A &&& 858993459) + ((A / 4) &&& 858993459)
    let C := (B + B / 16) &&& 252645135
    ((X / 2) &&& 1431655765 ≤ X) ∧ A < 2 ^ 32 ∧ B < 2 ^ 32 ∧ B + B / 16 < 2 ^ 32 ∧ C = t3 (t2 (t1 b0)) + 256 * (t3 (t2 (t1 b1)) + 256 * (t3 (t2 (t1 b2)) + 256 * t3 (t2 (t1 b3)))) := by
  intro A B C
  have c0 := tb1' b0 h0
  have c1 := tb1' b1 h1
  have c2 := tb1' b2 h2
  have c3 := tb1' b3 h3
  have eA0 : (X / 2) &&& 1431655765 = ((b0 / 2) &&& 85) + 256 * (((b1 / 2) &&& 85) + 256 * (((b2 / 2) &&& 85) + 256 * ((b3 / 2) &&& 85))) := by
    rw [hX, show (1431655765 : Nat) = 85 + 256 * (85 + 256 * (85 + 256 * 85)) from rfl, st1 h0, st1 h1, st1 h2]
  have eA : A = t1 b0 + 256 * (t1 b1 + 256 * (t1 b2 + 256 * t1 b3)) := by
    show X - ((X / 2) &&& 1431655765) = _
    rw [eA0, hX]
    unfold t1
    omega
  have d0 := tb2' (t1 b0) c0.2
  have d1 := tb2' (t1 b1) c1.2
  have d2 := tb2' (t1 b2) c2.2
  have d3 := tb2' (t1 b3) c3.2
  have f0 := tb2' b0 h0
  have f1 := tb2' b1 h1
  have f2 := tb2' b2 h2
  have f3 := tb2' b3 h3
  have eB : B = t2 (t1 b0) + 256 * (t2 (t1 b1) + 256 * (t2 (t1 b2) + 256 * t2 (t1 b3))) := by
    show (A &&& 858993459) + ((A / 4) &&& 858993459) = _
    rw [eA, show (858993459 : Nat) = 51 + 256 * (51 + 256 * (51 + 256 * 51)) from rfl, st2 c0.2, st2 c1.2, st2 c2.2, and_split c0.2 (by decide), and_split c1.2 (by decide), and_split c2.2 (by decide)]
    unfold t2
    omega
  have eC : C = t3 (t2 (t1 b0)) + 256 * (t3 (t2 (t1 b1)) + 256 * (t3 (t2 (t1 b2)) + 256 * t3 (t2 (t1 b3)))) := by
    show (B + B / 16) &&& 252645135 = _
    rw [eB, show (252645135 : Nat) = 15 + 256 * (15 + 256 * (15 + 256 * 15)) from rfl, st3 (by omega) (by omega), st3 (by omega) (by omega), st3 (by omega) (by omega)]
    rfl
  exact ⟨by rw [eA0, hX]; omega, by omega, by omega, by omega, eC⟩
theorem cnt_fin {a b c d y : Nat} (ha : a ≤ 8) (hb : b ≤ 8) (hc : c ≤ 8) (hd : d ≤ 8) (hy : y = a + 256 * (b + 256 * (c + 256 * d))) : (y + y / 256 + (y + y / 256) / 65536) % 64 = a + b + c + d := by
  have e1 : y / 256 = b + 256 * (c + 256 * d) := by omega
  rw [e1]
  have e2 : y + (b + 256 * (c + 256 * d)) = (a + b) + 256 * (b + c) + 65536 * ((c + d) + 256 * d) := by omega
  rw [e2]
  have e3 : ((a + b) + 256 * (b + c) + 65536 * ((c + d) + 256 * d)) / 65536 = (c + d) + 256 * d := by omega
  rw [e3]
  omega
theorem cl_bitCount (h : hp_H) (v : Int32) : f_JI_bitCount h v = some (nI (cB (bt v) 32 0), h) := by
  have hlt := uN_lt v
  let b0 := uN v % 256
  let b1 := uN v / 256 % 256
  let b2 := uN v / 65536 % 256
  let b3 := uN v / 16777216
  have hX : uN v = b0 + 256 * (b1 + 256 * (b2 + 256 * b3)) := by
    show uN v = uN v % 256 + 256 * (uN v / 256 % 256 + 256 * (uN v / 65536 % 256 + 256 * (uN v / 16777216)))
    omega
  have l0 : b0 < 256 := Nat.mod_lt _ (by decide)
  have l1 : b1 < 256 := Nat.mod_lt _ (by decide)
  have l2 : b2 < 256 := Nat.mod_lt _ (by decide)
  have l3 : b3 < 256 := by show uN v / 16777216 < 256; omega
  obtain ⟨k1, k2, k3, k4, k5⟩ := cnt32 l0 l1 l2 l3 hX
  have p0 := cB_le (fun j => b0.testBit j) 8 0
  have p1 := cB_le (fun j => b1.testBit j) 8 0
  have p2 := cB_le (fun j => b2.testBit j) 8 0
  have p3 := cB_le (fun j => b3.testBit j) 8 0
  rw [tb4 b0 l0, tb4 b1 l1, tb4 b2 l2, tb4 b3 l3] at k5
  have tb : ∀ j, j < 8 → (uN v).testBit j = b0.testBit j ∧ (uN v).testBit (8 + j) = b1.testBit j ∧ (uN v).testBit (16 + j) = b2.testBit j ∧ (uN v).testBit (24 + j) = b3.testBit j := by
    intro j hj
    have e8 : ∀ (a b : Nat), a < 256 → ∀ i, (a + 256 * b).testBit i = if i < 8 then a.testBit i else b.testBit (i - 8) := by
      intro a b ha i
      rw [Nat.add_comm, show (256 : Nat) = 2 ^ 8 from rfl, Nat.testBit_two_pow_mul_add b ha]
    refine ⟨?_, ?_, ?_, ?_⟩
    · rw [hX, e8 _ _ l0, if_pos hj]
    · rw [hX, e8 _ _ l0, if_neg (by omega), e8 _ _ l1, if_pos (by omega), show 8 + j - 8 = j by omega]
    · rw [hX, e8 _ _ l0, if_neg (by omega), e8 _ _ l1, if_neg (by omega), e8 _ _ l2, if_pos (by omega), show 16 + j - 8 - 8 = j by omega]
    · rw [hX, e8 _ _ l0, if_neg (by omega), e8 _ _ l1, if_neg (by omega), e8 _ _ l2, if_neg (by omega), show 24 + j - 8 - 8 - 8 = j by omega]
  have hsum : cB (bt v) 32 0 = cB (fun j => b0.testBit j) 8 0 + cB (fun j => b1.testBit j) 8 0 + cB (fun j => b2.testBit j) 8 0 + cB (fun j => b3.testBit j) 8 0 := by
    rw [show (32 : Nat) = 8 + (8 + (8 + 8)) from rfl, cB_add, cB_add, cB_add]
    have q0 : cB (bt v) 8 0 = cB (fun j => b0.testBit j) 8 0 := cB_congr 8 0 (fun j _ j2 => (tb j (by omega)).1)
    have q1 : cB (bt v) 8 (0 + 8) = cB (fun j => b1.testBit j) 8 0 := by
      rw [show 0 + 8 = 8 + 0 from rfl, cB_shift]
      exact cB_congr 8 0 (fun j _ j2 => (tb j (by omega)).2.1)
    have q2 : cB (bt v) 8 (0 + 8 + 8) = cB (fun j => b2.testBit j) 8 0 := by
      rw [show 0 + 8 + 8 = 16 + 0 from rfl, cB_shift]
      exact cB_congr 8 0 (fun j _ j2 => (tb j (by omega)).2.2.1)
    have q3 : cB (bt v) 8 (0 + 8 + 8 + 8) = cB (fun j => b3.testBit j) 8 0 := by
      rw [show 0 + 8 + 8 + 8 = 24 + 0 from rfl, cB_shift]
      exact cB_congr 8 0 (fun j _ j2 => (tb j (by omega)).2.2.2)
    rw [q0, q1, q2, q3]
    omega
  -- the word, step by step
  let i1 : Int32 := v - (((v.toUInt32 >>> ((1 : Int32).toUInt32 &&& Int32.toUInt32 31)).toInt32) &&& 1431655765)
  let i2 : Int32 := (i1 &&& 858993459) + (((i1.toUInt32 >>> ((2 : Int32).toUInt32 &&& Int32.toUInt32 31)).toInt32) &&& 858993459)
  let i3 : Int32 := (i2 + (i2.toUInt32 >>> ((4 : Int32).toUInt32 &&& Int32.toUInt32 31)).toInt32) &&& 252645135
  let i4 : Int32 := i3 + (i3.toUInt32 >>> ((8 : Int32).toUInt32 &&& Int32.toUInt32 31)).toInt32
  let i5 : Int32 := i4 + (i4.toUInt32 >>> ((16 : Int32).toUInt32 &&& Int32.toUInt32 31)).toInt32
  have hf : f_JI_bitCount h v = some (i5 &&& 63, h) := rfl
  have s1 : ∀ a : Int32, uN ((a.toUInt32 >>> ((1 : Int32).toUInt32 &&& Int32.toUInt32 31)).toInt32) = uN a / 2 := fun a => by
    rw [uN_shr, show ((1 : Int32).toUInt32 &&& Int32.toUInt32 31).toNat % 32 = 1 by decide, Nat.shiftRight_eq_div_pow]
  have s2 : ∀ a : Int32, uN ((a.toUInt32 >>> ((2 : Int32).toUInt32 &&& Int32.toUInt32 31)).toInt32) = uN a / 4 := fun a => by
    rw [uN_shr, show ((2 : Int32).toUInt32 &&& Int32.toUInt32 31).toNat % 32 = 2 by decide, Nat.shiftRight_eq_div_pow]
  have s4 : ∀ a : Int32, uN ((a.toUInt32 >>> ((4 : Int32).toUInt32 &&& Int32.toUInt32 31)).toInt32) = uN a / 16 := fun a => by
    rw [uN_shr, show ((4 : Int32).toUInt32 &&& Int32.toUInt32 31).toNat % 32 = 4 by decide, Nat.shiftRight_eq_div_pow]
  have s8 : ∀ a : Int32, uN ((a.toUInt32 >>> ((8 : Int32).toUInt32 &&& Int32.toUInt32 31)).toInt32) = uN a / 256 := fun a => by
    rw [uN_shr, show ((8 : Int32).toUInt32 &&& Int32.toUInt32 31).toNat % 32 = 8 by decide, Nat.shiftRight_eq_div_pow]
  have s16 : ∀ a : Int32, uN ((a.toUInt32 >>> ((16 : Int32).toUInt32 &&& Int32.toUInt32 31)).toInt32) = uN a / 65536 := fun a => by
    rw [uN_shr, show ((16 : Int32).toUInt32 &&& Int32.toUInt32 31).toNat % 32 = 16 by decide, Nat.shiftRight_eq_div_pow]
  have w1 : uN i1 = uN v - ((uN v / 2) &&& 1431655765) := by
    show uN (v - _) = _
    rw [uN_sub, uN_and, s1, show uN 1431655765 = 1431655765 from rfl]
    omega
  have w2 : uN i2 = (uN i1 &&& 858993459) + ((uN i1 / 4) &&& 858993459) := by
    show uN (_ + _) = _
    rw [uN_add, uN_and, uN_and, s2, show uN 858993459 = 858993459 from rfl, w1]
    exact Nat.mod_eq_of_lt k3
  have w3 : uN i3 = (uN i2 + uN i2 / 16) &&& 252645135 := by
    show uN (_ &&& _) = _
    rw [uN_and, uN_add, s4, show uN 252645135 = 252645135 from rfl, w2, w1]
    rw [Nat.mod_eq_of_lt k4]
  rw [← w1, ← w2, ← w3] at k5
  have w4 : uN i4 = uN i3 + uN i3 / 256 := by
    show uN (_ + _) = _
    rw [uN_add, s8]
    exact Nat.mod_eq_of_lt (by omega)
  have w5 : uN i5 = uN i4 + uN i4 / 65536 := by
    show uN (_ + _) = _
    rw [uN_add, s16]
    exact Nat.mod_eq_of_lt (by omega)
  rw [hf]
  have w6 : uN (i5 &&& 63) = cB (bt v) 32 0 := by
    rw [uN_and, show uN 63 = 2 ^ 6 - 1 from rfl, Nat.and_two_pow_sub_one_eq_mod, hsum, w5, w4]
    exact cnt_fin p0 p1 p2 p3 k5
  rw [uN_nI w6]
