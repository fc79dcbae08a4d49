/-! ===== numbers of parts: digits and letters ===== -/
theorem i32_of {x lo hi : Int32} {l u : Nat} (hl : lo.toInt = l) (hu : hi.toInt = u) (h1 : ¬ x < lo) (h2 : ¬ hi < x) : ∃ q : Nat, l ≤ q ∧ q ≤ u ∧ x = nI q := by
  have a1 : lo.toInt ≤ x.toInt := Int32.le_iff_toInt_le.mp (Int32.not_lt.mp h1)
  have a2 : x.toInt ≤ hi.toInt := Int32.le_iff_toInt_le.mp (Int32.not_lt.mp h2)
  have a3 : hi.toInt < 2 ^ 31 := Int32.toInt_lt hi
  refine ⟨x.toInt.toNat, by omega, by omega, ?_⟩
  refine Int32.toInt_inj.mp ?_
  rw [nI_toInt (by omega)]
  omega
theorem dg_of {x : Int32} (h : Dg x) : ∃ q : Nat, q ≤ 9 ∧ x = nI (48 + q) ∧ (x - 48).toInt64 = lN q := by
  obtain ⟨q, h1, h2, rfl⟩ := i32_of (l := 48) (u := 57) (by decide) (by decide) h.1 h.2
  refine ⟨q - 48, by omega, by rw [show 48 + (q - 48) = q by omega], ?_⟩
  rw [show nI q - 48 = nI (q - 48) from pk_sub (a := q) (b := 48) h1, nI_l (by omega)]
theorem lr_of {x : Int32} (h : Lr x) : ∃ q : Nat, 1 ≤ q ∧ q ≤ 26 ∧ x = nI (96 + q) ∧ (x - 97 + 1).toInt64 = lN q := by
  obtain ⟨q, h1, h2, rfl⟩ := i32_of (l := 97) (u := 122) (by decide) (by decide) h.1 h.2
  refine ⟨q - 96, by omega, by omega, by rw [show 96 + (q - 96) = q by omega], ?_⟩
  rw [show nI q - 97 = nI (q - 97) from pk_sub (a := q) (b := 97) h1, nI_1, nI_l (by omega), show q - 97 + 1 = q - 96 by omega]
/-- the value of n digits from k on, behind a -/
def dv (v : Nat → Int32) : Nat → Nat → Int64 → Int64
  | 0, _, a => a
  | n + 1, k, a => dv v n (k + 1) (10 * a + (v k - 48).toInt64)
theorem dv_lN (v : Nat → Int32) : ∀ (n k a : Nat), (∀ j, k ≤ j → j < k + n → Dg (v j)) → ∃ r : Nat, dv v n k (lN a) = lN r ∧ r < (a + 1) * 10 ^ n
  | 0, k, a, _ => ⟨a, rfl, by omega⟩
  | n + 1, k, a, h => by
    obtain ⟨q, h1, -, h3⟩ := dg_of (h k (Nat.le_refl _) (by omega))
    obtain ⟨r, g1, g2⟩ := dv_lN v n (k + 1) (10 * a + q) (fun j j1 j2 => h j (by omega) (by omega))
    refine ⟨r, ?_, ?_⟩
    · rw [dv, h3, show (10 : Int64) = lN 10 from rfl, lN_mul, lN_add]
      exact g1
    · have : (10 * a + q + 1) * 10 ^ n ≤ ((a + 1) * 10) * 10 ^ n := Nat.mul_le_mul_right _ (by omega)
      rw [Nat.pow_succ]
      calc r < (10 * a + q + 1) * 10 ^ n := g2
        _ ≤ ((a + 1) * 10) * 10 ^ n := this
        _ = (a + 1) * (10 ^ n * 10) := by rw [Nat.mul_assoc, Nat.mul_comm 10]
/-- a letter as a digit of base 27; nothing as 0 -/
def dig (x : Int32) : Nat := if x = 0 then 0 else x.toNatClampNeg - 96
theorem dig_lr {x : Int32} (h : Lr x) : 1 ≤ dig x ∧ dig x ≤ 26 ∧ x = nI (96 + dig x) ∧ (x - 97 + 1).toInt64 = lN (dig x) := by
  obtain ⟨q, h1, h2, h3, h4⟩ := lr_of h
  have hx : ¬ x = 0 := by rw [h3]; exact nI_ne0 (by omega) (by omega)
  have hd : dig x = q := by unfold dig; rw [if_neg hx, h3, nI_clamp (by omega)]; omega
  rw [hd]
  exact ⟨h1, h2, h3, h4⟩
/-- n digits from i on -/
def cdg (x : Nat → Int32) : Nat → Nat → Nat
  | 0, _ => 0
  | n + 1, i => dig (x i) * 27 ^ n + cdg x n (i + 1)
theorem dig_0 : dig 0 = 0 := by unfold dig; rw [if_pos rfl]
theorem cdg_lt (x : Nat → Int32) : ∀ (n i : Nat), (∀ j, i ≤ j → j < i + n → x j = 0 ∨ Lr (x j)) → cdg x n i < 27 ^ n
  | 0, i, _ => by show 0 < 1; decide
  | n + 1, i, h => by
    have h1 := cdg_lt x n (i + 1) (fun j j1 j2 => h j (by omega) (by omega))
    have h2 : dig (x i) ≤ 26 := by
      rcases h i (Nat.le_refl _) (by omega) with q | q
      · rw [q, dig_0]; omega
      · exact (dig_lr q).2.1
    have h3 : dig (x i) * 27 ^ n ≤ 26 * 27 ^ n := Nat.mul_le_mul_right _ h2
    rw [cdg, Nat.pow_succ]
    omega
/-- the order of words: -1, 0, 1 -/
def ow (x y : Nat → Int32) : Nat → Nat → Int32
  | 0, _ => 0
  | n + 1, i => if x i = y i then ow x y n (i + 1) else if y i ≤ x i then 1 else -1
theorem ow_cdg (x y : Nat → Int32) : ∀ (n i : Nat), (∀ j, i ≤ j → j < i + n → x j = 0 ∨ Lr (x j)) → (∀ j, i ≤ j → j < i + n → y j = 0 ∨ Lr (y j)) → ow x y n i = if cdg x n i = cdg y n i then 0 else if cdg x n i < cdg y n i then -1 else 1
  | 0, i, _, _ => by simp [ow, cdg]
  | n + 1, i, hx, hy => by
    have ih := ow_cdg x y n (i + 1) (fun j j1 j2 => hx j (by omega) (by omega)) (fun j j1 j2 => hy j (by omega) (by omega))
    have lx := cdg_lt x n (i + 1) (fun j j1 j2 => hx j (by omega) (by omega))
    have ly := cdg_lt y n (i + 1) (fun j j1 j2 => hy j (by omega) (by omega))
    rw [ow, cdg, cdg]
    by_cases h : x i = y i
    · rw [if_pos h, ih, h]
      simp only [Nat.add_left_cancel_iff, Nat.add_lt_add_iff_left]
    · rw [if_neg h]
      have key : ∀ {p q : Int32}, (p = 0 ∨ Lr p) → (q = 0 ∨ Lr q) → ¬ p = q → (q ≤ p → dig q < dig p) ∧ (¬ q ≤ p → dig p < dig q) := by
        intro p q hp hq hne
        rcases hp with rfl | hp <;> rcases hq with rfl | hq
        · exact absurd rfl hne
        · obtain ⟨a1, a2, a3, -⟩ := dig_lr hq
          refine ⟨fun z => ?_, fun _ => by rw [dig_0]; omega⟩
          rw [a3] at z
          exact absurd z (nI_nle (by omega) (by omega))
        · obtain ⟨a1, a2, a3, -⟩ := dig_lr hp
          refine ⟨fun _ => by rw [dig_0]; omega, fun z => absurd ?_ z⟩
          rw [a3]
          exact nI_pos' (by omega)
        · obtain ⟨a1, a2, a3, -⟩ := dig_lr hp
          obtain ⟨b1, b2, b3, -⟩ := dig_lr hq
          generalize dig p = dp at a1 a2 a3 ⊢
          generalize dig q = dq at b1 b2 b3 ⊢
          subst a3; subst b3
          have e1 : ¬ (96 + dp = 96 + dq) := fun z => hne (by rw [z])
          rw [nI_leI (by omega) (by omega)]
          omega
      obtain ⟨k1, k2⟩ := key (hx i (Nat.le_refl _) (by omega)) (hy i (Nat.le_refl _) (by omega)) h
      have far : ∀ {a b c d t : Nat}, a < b → c < t → d < t → a * t + c < b * t + d := by
        intro a b c d t hab hc hd
        have : (a + 1) * t ≤ b * t := Nat.mul_le_mul_right _ hab
        rw [Nat.add_mul] at this
        omega
      by_cases hle : y i ≤ x i
      · rw [if_pos hle]
        have := far (k1 hle) ly lx
        rw [if_neg (by omega), if_neg (by omega)]
      · rw [if_neg hle]
        have := far (k2 hle) lx ly
        rw [if_neg (by omega), if_pos (by omega)]
/-- the number of a word of n letters from k on, as the class makes it -/
def wv (v : Nat → Int32) : Nat → Nat → Int64 → Int64 → Int64
  | 0, _, _, a => a
  | n + 1, k, w, a => wv v n (k + 1) (w / 27) (a + (v k - 97 + 1).toInt64 * w)
/-- the letters of a word, nothing behind its end -/
def wc (v : Nat → Int32) (b e i : Nat) : Int32 := if e ≤ b + i then 0 else v (b + i)
theorem wv_cdg (v : Nat → Int32) (b e : Nat) : ∀ (t i : Nat) (a : Int64), t ≤ 12 → e ≤ b + i + (t + 1) → (∀ j, b + i ≤ j → j < e → Lr (v j)) → wv v (e - (b + i)) (b + i) (lN (27 ^ t)) a = a + lN (cdg (wc v b e) (t + 1) i) := by
  intro t
  induction t with
  | zero =>
    intro i a _ he hl
    by_cases h : e ≤ b + i
    · rw [show e - (b + i) = 0 by omega, wv, cdg, cdg, wc, if_pos h, dig_0]
      show a = a + 0
      rw [Int64.add_zero]
    · rw [show e - (b + i) = 0 + 1 by omega, wv, wv, cdg, cdg, wc, if_neg h, (dig_lr (hl (b + i) (Nat.le_refl _) (by omega))).2.2.2, lN_mul]
      rfl
  | succ t ih =>
    intro i a ht he hl
    by_cases h : e ≤ b + i
    · have z : ∀ (n j : Nat), i ≤ j → cdg (wc v b e) n j = 0 := by
        intro n
        induction n with
        | zero => intro j _; rfl
        | succ n ihn => intro j hj; rw [cdg, ihn (j + 1) (by omega), wc, if_pos (by omega), dig_0]; simp
      rw [show e - (b + i) = 0 by omega, wv, z _ i (Nat.le_refl _)]
      show a = a + 0
      rw [Int64.add_zero]
    · have hw : lN (27 ^ (t + 1)) / 27 = lN (27 ^ t) := by
        have hb : 27 ^ (t + 1) ≤ 27 ^ 12 := Nat.pow_le_pow_right (by omega) ht
        rw [show (27 : Int64) = lN 27 from rfl, pk_lDiv (by omega) (by omega) (by omega), Nat.pow_succ, Nat.mul_div_cancel _ (by omega)]
      rw [show e - (b + i) = (e - (b + (i + 1))) + 1 by omega, wv, hw, (dig_lr (hl (b + i) (Nat.le_refl _) (by omega))).2.2.2, lN_mul, show b + i + 1 = b + (i + 1) by omega, ih (i + 1) _ (by omega) (by omega) (fun j j1 j2 => hl j (by omega) j2), Int64.add_assoc, lN_add]
      conv => rhs; rw [cdg, wc, if_neg h]
/-- what the class keeps of a part -/
noncomputable def pn (v : Nat → Int32) (q : Option (Nat × Nat)) : Int64 := match q with
  | none => 0
  | some q => @ite Int64 (Dg (v q.1)) (Classical.propDecidable _) (dv v (q.2 - q.1) q.1 0) (wv v (q.2 - q.1) q.1 205891132094649 (-5559060566555523))
/-- two versions, part by part -/
def cmpP (x y : Nat → Int64) : Nat → Nat → Int32
  | 0, _ => 0
  | n + 1, p => if x p = y p then cmpP x y n (p + 1) else if x p < y p then -1 else 1
/-- a part: characters of one kind -/
def PtP (v : Nat → Int32) (N : Nat) (q : Nat × Nat) : Prop := q.1 < q.2 ∧ q.2 ≤ N ∧ ∀ j, q.1 ≤ j → j < q.2 → ¬ Mk (v j) ∧ (Dg (v j) ↔ Dg (v q.1))
theorem pts_spec (v : Nat → Int32) (N : Nat) : ∀ (n k : Nat) (q : Nat × Nat), q ∈ pts v N n k → PtP v N q
  | 0, k, q, h => by simp [pts] at h
  | n + 1, k, q, h => by
    rw [pts] at h
    by_cases h1 : N ≤ k
    · rw [if_pos h1] at h; simp at h
    · rw [if_neg h1] at h
      by_cases h2 : Mk (v k)
      · rw [if_pos h2] at h
        exact pts_spec v N n (k + 1) q h
      · rw [if_neg h2] at h
        obtain ⟨g1, g2, g3, g4⟩ := rn_spec v (Dg (v k)) (N - (k + 1)) (k + 1)
        rcases List.mem_cons.mp h with rfl | h
        · refine ⟨by show k < _; omega, by show _ ≤ N; omega, fun j j1 j2 => ?_⟩
          by_cases hj : j = k
          · subst hj; exact ⟨h2, Iff.rfl⟩
          · exact g3 j (by have : k ≤ j := j1; omega) j2
        · exact pts_spec v N n _ q h
theorem pv_spec {v : Nat → Int32} {N p : Nat} {q : Nat × Nat} (h : pv v N p = some q) : PtP v N q := pts_spec v N FU 0 q (List.mem_of_getElem? h)
/-- in a version, what is no digit and no mark is a letter -/
theorem pt_lr {v : Nat → Int32} {N : Nat} {q : Nat × Nat} (hq : PtP v N q) (hv : ∀ j, j < N → VC (v j)) (hd : ¬ Dg (v q.1)) : ∀ j, q.1 ≤ j → j < q.2 → Lr (v j) := by
  intro j j1 j2
  obtain ⟨h1, h2⟩ := hq.2.2 j j1 j2
  rcases hv j (Nat.lt_of_lt_of_le j2 hq.2.1) with q | q | q
  · exact absurd (h2.mp q) hd
  · exact q
  · exact absurd q h1
theorem pn_word {v : Nat → Int32} {N : Nat} {q : Nat × Nat} (hq : PtP v N q) (hN : N ≤ 12) (h0 : 0 < q.1) (hv : ∀ j, j < N → VC (v j)) (hd : ¬ Dg (v q.1)) : pn v (some q) = -5559060566555523 + lN (cdg (wc v q.1 q.2) 11 0) ∧ cdg (wc v q.1 q.2) 11 0 < 27 ^ 11 := by
  have hl := pt_lr hq hv hd
  have h1 := hq.1
  have h2 := hq.2.1
  refine ⟨?_, cdg_lt _ 11 0 (fun j _ _ => ?_)⟩
  · simp only [pn]
    rw [if_neg hd]
    have := wv_cdg v q.1 q.2 10 0 (-5559060566555523) (by omega) (by omega) (fun j j1 j2 => hl j (by omega) j2)
    rw [Nat.add_zero] at this
    exact this
  · unfold wc
    by_cases hj : q.2 ≤ q.1 + j
    · rw [if_pos hj]; exact Or.inl rfl
    · rw [if_neg hj]; exact Or.inr (hl _ (by omega) (by omega))
theorem pn_num {v : Nat → Int32} {N : Nat} {q : Nat × Nat} (hq : PtP v N q) (hN : N ≤ 12) (hd : Dg (v q.1)) : ∃ r : Nat, pn v (some q) = lN r ∧ dv v (q.2 - q.1) q.1 0 = lN r ∧ r < 10 ^ 12 := by
  have h1 := hq.1
  have h2 := hq.2.1
  obtain ⟨r, g1, g2⟩ := dv_lN v (q.2 - q.1) q.1 0 (fun j j1 j2 => ((hq.2.2 j j1 (by omega)).2.mpr hd))
  refine ⟨r, ?_, g1, ?_⟩
  · simp only [pn]; rw [if_pos hd]; exact g1
  · have : 10 ^ (q.2 - q.1) ≤ 10 ^ 12 := Nat.pow_le_pow_right (by omega) (by omega)
    omega
theorem i64_word {c : Nat} (h : c < 27 ^ 11) : (-5559060566555523 + lN c : Int64).toInt = (c : Int) - 5559060566555523 := by
  rw [Int64.toInt_add, pk_lT (by omega), show (-5559060566555523 : Int64).toInt = -5559060566555523 by decide]
  rw [Int.bmod_eq_of_le (by omega) (by omega)]
  omega
