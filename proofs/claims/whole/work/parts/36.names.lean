/-! ===== the numbers of names ===== -/
def nmN (c : Nat → Int32) : Nat → Nat → Nat → Nat
  | 0, _, a => a
  | n + 1, k, a => nmN c n (k + 1) (a * 27 + dig (c k))
theorem nmv_lN (c : Nat → Int32) : ∀ (n k a : Nat), (∀ j, k ≤ j → j < k + n → Lr (c j)) → nmv c n k (lN a) = lN (nmN c n k a)
  | 0, k, a, _ => rfl
  | n + 1, k, a, h => by
    rw [nmv, nmN, (dig_lr (h k (Nat.le_refl _) (by omega))).2.2.2, show (27 : Int64) = lN 27 from rfl, lN_mul, lN_add]
    exact nmv_lN c n (k + 1) _ (fun j j1 j2 => h j (by omega) (by omega))
theorem nmN_lt (c : Nat → Int32) : ∀ (n k a : Nat), (∀ j, k ≤ j → j < k + n → Lr (c j)) → nmN c n k a < (a + 1) * 27 ^ n
  | 0, k, a, _ => by rw [nmN]; omega
  | n + 1, k, a, h => by
    rw [nmN]
    have h1 := nmN_lt c n (k + 1) (a * 27 + dig (c k)) (fun j j1 j2 => h j (by omega) (by omega))
    have h2 := (dig_lr (h k (Nat.le_refl _) (by omega))).2.1
    have h3 : (a * 27 + dig (c k) + 1) * 27 ^ n ≤ ((a + 1) * 27) * 27 ^ n := Nat.mul_le_mul_right _ (by omega)
    rw [Nat.pow_succ, Nat.mul_comm (27 ^ n) 27, ← Nat.mul_assoc]
    omega
theorem nmN_last (c : Nat → Int32) : ∀ (n k a : Nat), nmN c (n + 1) k a = nmN c n k a * 27 + dig (c (k + n))
  | 0, k, a => rfl
  | n + 1, k, a => by
    rw [nmN, nmN_last c n (k + 1), show k + 1 + n = k + (n + 1) by omega]
    rfl
theorem nmN_inj (c d : Nat → Int32) : ∀ (n m : Nat), (∀ j, j < n → Lr (c j)) → (∀ j, j < m → Lr (d j)) → nmN c n 0 0 = nmN d m 0 0 → n = m ∧ ∀ j, j < n → c j = d j
  | 0, 0, _, _, _ => ⟨rfl, fun j h => absurd h (Nat.not_lt_zero _)⟩
  | 0, m + 1, _, hd, h => by
    rw [nmN_last, nmN] at h
    have := (dig_lr (hd (0 + m) (by omega))).1
    omega
  | n + 1, 0, hc, _, h => by
    rw [nmN_last, nmN] at h
    have := (dig_lr (hc (0 + n) (by omega))).1
    omega
  | n + 1, m + 1, hc, hd, h => by
    rw [nmN_last, nmN_last, Nat.zero_add, Nat.zero_add] at h
    have a1 := dig_lr (hc n (by omega))
    have a2 := dig_lr (hd m (by omega))
    have e1 : nmN c n 0 0 = nmN d m 0 0 := by omega
    have e2 : dig (c n) = dig (d m) := by omega
    obtain ⟨h1, h2⟩ := nmN_inj c d n m (fun j hj => hc j (by omega)) (fun j hj => hd j (by omega)) e1
    subst h1
    refine ⟨rfl, fun j hj => ?_⟩
    rcases Nat.lt_or_ge j n with z | z
    · exact h2 j z
    · rw [show j = n by omega, a1.2.2.1, a2.2.2.1, e2]
theorem nmP_lr {c : Nat → Int32} {q : Nat} (h : NmP c 0 q) : ∀ j, j < q → Lr (c j) := fun j hj => h.2.2 j (Nat.zero_le _) hj
theorem nmv_val {c : Nat → Int32} {q : Nat} (h : NmP c 0 q) : nmv c q 0 0 = lN (nmN c q 0 0) ∧ nmN c q 0 0 < 27 ^ 8 := by
  refine ⟨nmv_lN c q 0 0 (fun j _ j2 => nmP_lr h j (by omega)), ?_⟩
  have h1 := nmN_lt c q 0 0 (fun j _ j2 => nmP_lr h j (by omega))
  have h2 : 27 ^ q ≤ 27 ^ 8 := Nat.pow_le_pow_right (by decide) (by have := h.2.1; omega)
  omega
theorem lN_inj {a b : Nat} (ha : a < 2 ^ 63) (hb : b < 2 ^ 63) (h : lN a = lN b) : a = b := by
  have h1 : (lN a).toInt = (a : Int) := lg_ofNat_toInt ha
  have h2 : (lN b).toInt = (b : Int) := lg_ofNat_toInt hb
  rw [h] at h1
  omega
/-- two names have one number just when they are the same -/
theorem nm_inj {c d : Nat → Int32} {q r : Nat} (hc : NmP c 0 q) (hd : NmP d 0 r) : nmv c q 0 0 = nmv d r 0 0 ↔ q = r ∧ ∀ k, k < q → c k = d k := by
  obtain ⟨v1, b1⟩ := nmv_val hc
  obtain ⟨v2, b2⟩ := nmv_val hd
  constructor
  · intro h
    rw [v1, v2] at h
    exact nmN_inj c d q r (nmP_lr hc) (nmP_lr hd) (lN_inj (Nat.lt_trans b1 (by decide)) (Nat.lt_trans b2 (by decide)) h)
  · rintro ⟨rfl, h⟩
    have : ∀ (n k : Nat) (a : Int64), k + n ≤ q → nmv c n k a = nmv d n k a := by
      intro n
      induction n with
      | zero => intro k a _; rfl
      | succ n ih => intro k a hk; rw [nmv, nmv, h k (by omega), ih (k + 1) _ (by omega)]
    exact this q 0 0 (by omega)
theorem nmv_congr {c d : Nat → Int32} {q : Nat} (h : ∀ k, k < q → c k = d k) : nmv c q 0 0 = nmv d q 0 0 := by
  have : ∀ (n k : Nat) (a : Int64), k + n ≤ q → nmv c n k a = nmv d n k a := by
    intro n
    induction n with
    | zero => intro k a _; rfl
    | succ n ih => intro k a hk; rw [nmv, nmv, h k (by omega), ih (k + 1) _ (by omega)]
  exact this q 0 0 (by omega)
theorem nm_ne0 {c : Nat → Int32} {q : Nat} (hc : NmP c 0 q) : nmv c q 0 0 ≠ 0 := by
  obtain ⟨v1, b1⟩ := nmv_val hc
  rw [v1]
  intro h
  have h0 : nmN c q 0 0 = 0 := lN_inj (b := 0) (Nat.lt_trans b1 (by decide)) (by decide) h
  have hq := hc.1
  rw [show q = (q - 1) + 1 by omega, nmN_last] at h0
  have := (dig_lr (nmP_lr hc (0 + (q - 1)) (by omega))).1
  omega
/-! ===== bits ===== -/
def bt (x : Int32) (j : Nat) : Bool := x.toBitVec.getLsbD j
theorem bt_ext {x y : Int32} (h : ∀ j, j < 32 → bt x j = bt y j) : x = y := by
  refine Int32.toBitVec_inj.mp ?_
  exact BitVec.eq_of_getLsbD_eq h
theorem bt_and (x y : Int32) (j : Nat) : bt (x &&& y) j = (bt x j && bt y j) := by
  unfold bt; rw [Int32.toBitVec_and, BitVec.getLsbD_and]
theorem bt_or (x y : Int32) (j : Nat) : bt (x ||| y) j = (bt x j || bt y j) := by
  unfold bt; rw [Int32.toBitVec_or, BitVec.getLsbD_or]
theorem bt_xor (x y : Int32) (j : Nat) : bt (x ^^^ y) j = (bt x j ^^ bt y j) := by
  unfold bt; rw [Int32.toBitVec_xor, BitVec.getLsbD_xor]
theorem bt_one : ∀ j, j < 32 → ∀ i, i < 32 → bt ((1 : Int32) <<< (nI j &&& 31)) i = decide (i = j) := by decide +kernel
theorem bt_m1 : ∀ i, i < 32 → bt (-1 : Int32) i = true := by decide +kernel
theorem bt_0 (i : Nat) : bt (0 : Int32) i = false := by
  unfold bt; rw [show (0 : Int32).toBitVec = 0#32 from rfl, BitVec.getLsbD_zero]
theorem bt_1 : ∀ i, i < 32 → bt (1 : Int32) i = decide (i = 0) := by decide +kernel
theorem bt_shm : ∀ j, j < 32 → (nI j &&& 31).toBitVec.smod 32 = BitVec.ofNat 32 j := by decide +kernel
theorem bt_shr {x : Int32} {j : Nat} (hj : j < 32) : bt (x >>> (nI j &&& 31)) 0 = bt x j := by
  unfold bt
  rw [Int32.toBitVec_shiftRight, bt_shm j hj, BitVec.sshiftRight_eq', BitVec.getLsbD_sshiftRight, BitVec.toNat_ofNat, Nat.mod_eq_of_lt (by omega)]
  simp [hj]
theorem bt_bit {x : Int32} {j : Nat} (hj : j < 32) : (x >>> (nI j &&& 31)) &&& 1 = if bt x j then 1 else 0 := by
  refine bt_ext fun i hi => ?_
  rw [bt_and, bt_1 i hi]
  by_cases h0 : i = 0
  · subst h0
    rw [bt_shr hj]
    cases bt x j <;> simp [bt_0, bt_1]
  · simp only [h0, decide_false, Bool.and_false]
    cases bt x j <;> simp [bt_0, bt_1 i hi, h0]
/-- a bit as the class reads it -/
theorem bt_has {x : Int32} {j : Nat} (hj : j < 32) : (x &&& ((1 : Int32) <<< (nI j &&& 31))) = 0 ↔ (x >>> (nI j &&& 31)) &&& 1 = 0 := by
  rw [bt_bit hj]
  constructor
  · intro h
    have h1 := bt_and x ((1 : Int32) <<< (nI j &&& 31)) j
    rw [h, bt_0, bt_one j hj j hj] at h1
    simp only [decide_true, Bool.and_true] at h1
    rw [← h1]; rfl
  · intro h
    have hb : bt x j = false := by
      cases hb : bt x j with
      | false => rfl
      | true => rw [hb] at h; exact absurd h (by decide)
    refine bt_ext fun i hi => ?_
    rw [bt_and, bt_one j hj i hi, bt_0]
    by_cases h0 : i = j
    · rw [h0, hb]; rfl
    · simp [h0]
theorem pk_off {x : Int32} {j : Nat} (hj : j < 32) : x &&& (((1 : Int32) <<< (nI j &&& 31)) ^^^ (-1)) = pkc x (nI j) 0 := by
  unfold pkc
  rw [bt_bit hj]
  refine bt_ext fun i hi => ?_
  rw [bt_and, bt_xor, bt_one j hj i hi, bt_m1 i hi]
  cases hb : bt x j with
  | false =>
    rw [if_pos (by decide)]
    by_cases h0 : i = j
    · rw [h0, hb]; rfl
    · simp [h0]
  | true =>
    rw [if_neg (by decide), bt_xor, bt_one j hj i hi]
    by_cases h0 : i = j
    · rw [h0, hb]; simp
    · simp [h0]
theorem pk_on {x : Int32} {j : Nat} (hj : j < 32) : x ||| ((1 : Int32) <<< (nI j &&& 31)) = pkc x (nI j) 1 := by
  unfold pkc
  rw [bt_bit hj]
  refine bt_ext fun i hi => ?_
  rw [bt_or, bt_one j hj i hi]
  cases hb : bt x j with
  | false =>
    rw [if_neg (by decide), bt_xor, bt_one j hj i hi]
    by_cases h0 : i = j
    · rw [h0, hb]; simp
    · simp [h0]
  | true =>
    rw [if_pos (by decide)]
    by_cases h0 : i = j
    · rw [h0, hb]; rfl
    · simp [h0]
