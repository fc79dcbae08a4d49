/-! ===== the reference: what only reads ===== -/
/-- the result's entries: R of them, each of an artifact -/
def ResV (S : MS) (N R : Nat) : Prop := R ≤ 20 ∧ S.1 18 = nI R ∧ ∀ e, e < R → ∃ a, a < N ∧ S.2 20 e = nI a
/-- how many of n from x on have P, added to a -/
noncomputable def cnF (P : Nat → Prop) : Nat → Nat → Int32 → Int32
  | 0, _, a => a
  | n + 1, x, a => cnF P n (x + 1) (@ite _ (P x) (Classical.propDecidable _) (a + 1) a)
/-- the greatest -/
def gmF (d : Nat → Int32) : Nat → Nat → Int32 → Int32
  | 0, _, a => a
  | n + 1, x, a => gmF d n (x + 1) (if d x ≤ a then a else d x)
/-- the sum -/
def smF (v : Nat → Int32) : Nat → Nat → Int32 → Int32
  | 0, _, a => a
  | n + 1, x, a => smF v n (x + 1) (a + v x)
/-- bit cls of the classes of entry e's artifact, as the reference reads it -/
def bitE (S : MS) (cls : Int32) (e : Nat) : Int32 := (S.2 9 (S.2 20 e).toNatClampNeg >>> (cls &&& 31)) &&& 1
section MDZ
variable (h : hp_H) (m : Nat)
theorem md_get20 {S : MS} {N R : Nat} (hR : ResV S N R) (x : Int32) : (∀ j, j < R → x = nI j → f_MD_entry (md_set h m S) m x = some (S.2 20 j, md_set h m S) ∧ f_MD_depth (md_set h m S) m x = some (S.2 21 j, md_set h m S)) ∧ ((¬ ∃ j, j < R ∧ x = nI j) → f_MD_entry (md_set h m S) m x = some (-1, md_set h m S) ∧ f_MD_depth (md_set h m S) m x = some (-1, md_set h m S)) := by
  obtain ⟨r1, r2, -⟩ := hR
  unfold f_MD_entry f_MD_depth
  simp only [md_i18, md_r20, md_a20, md_r21, md_a21, Option.bind_some, r2]
  refine ⟨fun j hj hx => ?_, fun hno => ?_⟩
  · subst hx
    simp only [if_neg (nI_pos (n := j) (by omega)), if_pos (nI_lt hj (by omega)), hp_ix_nI (show j < 40 by omega) (by decide), Option.map_some, Option.bind_some]
    exact ⟨trivial, trivial⟩
  · rcases md_at_ix r1 x 0 (Or.inl rfl) with (h1 | h1) | ⟨j, j1, j2, j3, j4⟩
    · simp only [if_pos h1, and_self]
    · simp only [if_neg h1, ite_self, and_self]
    · exact absurd ⟨j, j1, j2⟩ hno
theorem md_parent {S : MS} {N R : Nat} (hR : ResV S N R) (x : Int32) : (∀ j, 0 < j → j < R → x = nI j → f_MD_parent (md_set h m S) m x = some (S.2 22 j, md_set h m S)) ∧ ((¬ ∃ j, 0 < j ∧ j < R ∧ x = nI j) → f_MD_parent (md_set h m S) m x = some (-1, md_set h m S)) := by
  obtain ⟨r1, r2, -⟩ := hR
  unfold f_MD_parent
  simp only [md_i18, md_r22, md_a22, Option.bind_some, r2]
  refine ⟨fun j hj0 hj hx => ?_, fun hno => ?_⟩
  · subst hx
    rw [if_neg (show ¬ nI j < (1 : Int32) from nI_nlt (b := 1) (by omega) (by omega)), if_pos (nI_lt hj (by omega))]
    simp only [hp_ix_nI (show j < 40 by omega) (by decide), Option.map_some, Option.bind_some]
  · rcases md_at_ix r1 x 1 (Or.inr rfl) with (h1 | h1) | ⟨j, j1, j2, j3, j4⟩
    · rw [if_pos h1]
    · rw [if_neg h1, ite_self]
    · refine absurd ⟨j, ?_, j1, j2⟩ hno
      rcases Nat.eq_zero_or_pos j with z | z
      · subst z; rw [j2] at j3; exact absurd (show nI 0 < (1 : Int32) by decide) j3
      · exact z
theorem md_find_L {S : MS} {N R : Nat} (hN : N ≤ 20) (hR : ResV S N R) (d cls : Int32) : ∀ (f e : Nat) (b : Option Nat), e ≤ R → R - e < f → (∀ y, b = some y → y < R) → f_MD_find_L21 f m d cls (enc b) (nI e) (md_set h m S) = some (enc (pkF (fun e => ¬ S.2 21 e < d ∧ bitE S cls e ≠ 0) (fun x y => S.2 21 y < S.2 21 x) (R - e) e b), md_set h m S) := by
  obtain ⟨r1, r2, r3⟩ := hR
  intro f
  induction f with
  | zero => intro e b _ hf; omega
  | succ f ih =>
    intro e b he hf hb
    simp only [f_MD_find_L21, md_i18, Option.bind_some, r2]
    by_cases hlt : e < R
    · rw [if_neg (nI_ge hlt (by omega)), show R - e = (R - (e + 1)) + 1 by omega, pkF]
      obtain ⟨a, a1, a2⟩ := r3 e hlt
      have hbit : bitE S cls e = (S.2 9 a >>> (cls &&& 31)) &&& 1 := by unfold bitE; rw [a2, nI_clamp (by omega)]
      simp only [md_r20, md_a20, md_r21, md_a21, md_r9, md_a9, Option.bind_some, hp_ix_nI (show e < 40 by omega) (by decide), Option.map_some, a2, hp_ix_nI (show a < 20 by omega) (by decide)]
      have skip : ¬ ((¬ S.2 21 e < d ∧ bitE S cls e ≠ 0) ∧ ∀ y, b = some y → S.2 21 y < S.2 21 e) → f_MD_find_L21 f m d cls (enc b) (nI e + 1) (md_set h m S) = some (enc (pkF (fun e => ¬ S.2 21 e < d ∧ bitE S cls e ≠ 0) (fun x y => S.2 21 y < S.2 21 x) (R - (e + 1)) (e + 1) (@ite _ ((¬ S.2 21 e < d ∧ bitE S cls e ≠ 0) ∧ ∀ y, b = some y → S.2 21 y < S.2 21 e) (Classical.propDecidable _) (some e) b)), md_set h m S) := by
        intro hno
        rw [if_neg hno, nI_1]
        exact ih (e + 1) b (by omega) (by omega) hb
      have take : ((¬ S.2 21 e < d ∧ bitE S cls e ≠ 0) ∧ ∀ y, b = some y → S.2 21 y < S.2 21 e) → f_MD_find_L21 f m d cls (nI e) (nI e + 1) (md_set h m S) = some (enc (pkF (fun e => ¬ S.2 21 e < d ∧ bitE S cls e ≠ 0) (fun x y => S.2 21 y < S.2 21 x) (R - (e + 1)) (e + 1) (@ite _ ((¬ S.2 21 e < d ∧ bitE S cls e ≠ 0) ∧ ∀ y, b = some y → S.2 21 y < S.2 21 e) (Classical.propDecidable _) (some e) b)), md_set h m S) := by
        intro hyes
        rw [if_pos hyes, nI_1]
        exact ih (e + 1) (some e) (by omega) (by omega) (fun y hy => by cases hy; exact hlt)
      by_cases hd : S.2 21 e < d
      · rw [if_pos hd]
        exact skip (fun z => z.1.1 hd)
      · rw [if_neg hd, ← hbit]
        by_cases hz : bitE S cls e = 0
        · rw [if_pos hz]
          exact skip (fun z => z.1.2 hz)
        · rw [if_neg hz]
          cases b with
          | none =>
            rw [if_pos (show enc none < 0 by decide)]
            exact take ⟨⟨hd, hz⟩, fun y hy => by cases hy⟩
          | some y =>
            have hy : y < R := hb y rfl
            rw [if_neg (show ¬ enc (some y) < 0 from nI_pos (by omega))]
            simp only [show enc (some y) = nI y from rfl, hp_ix_nI (show y < 40 by omega) (by decide), Option.map_some, Option.bind_some]
            by_cases hle : S.2 21 e ≤ S.2 21 y
            · rw [if_pos hle]
              exact skip (fun z => absurd (z.2 y rfl) (Int32.not_lt.mpr hle))
            · rw [if_neg hle]
              exact take ⟨⟨hd, hz⟩, fun y' hy' => by cases hy'; exact Int32.not_le.mp hle⟩
    · have hkN : e = R := by omega
      subst hkN
      rw [if_pos (nI_le (Nat.le_refl _) (by omega)), Nat.sub_self, pkF]
theorem md_find {S : MS} {N R : Nat} (hN : N ≤ 20) (hR : ResV S N R) (d cls : Int32) : f_MD_find (md_set h m S) m d cls = (if d < 0 then some (-1, md_set h m S) else if cls < 0 then some (-1, md_set h m S) else if cls ≤ 31 then some (enc (pkF (fun e => ¬ S.2 21 e < d ∧ bitE S cls e ≠ 0) (fun x y => S.2 21 y < S.2 21 x) R 0 none), md_set h m S) else some (-1, md_set h m S)) := by
  unfold f_MD_find
  have key := md_find_L h m hN hR d cls FU 0 none (Nat.zero_le _) (FU_big (by have := hR.1; omega)) (fun y hy => by cases hy)
  rw [show enc none = (-1 : Int32) from rfl, nI_0, Nat.sub_zero] at key
  rw [key]
theorem md_text {S : MS} {N : Nat} (h4 : S.1 4 = nI N) (hN : N ≤ 20) (hV : ∀ i, i < N → ArtV S i) (x y : Int32) :
    ((¬ ∃ i, i < N ∧ x = nI i) → f_MD_text (md_set h m S) m x y = some (-1, md_set h m S)) ∧
    (∀ i, i < N → x = nI i → (y = -1 → f_MD_text (md_set h m S) m x y = some (nI (tl S i), md_set h m S)) ∧ (∀ j, j < tl S i → y = nI j → f_MD_text (md_set h m S) m x y = some (S.2 6 (i * 21 + j), md_set h m S)) ∧ ((y ≠ -1 ∧ ¬ ∃ j, j < tl S i ∧ y = nI j) → f_MD_text (md_set h m S) m x y = some (-1, md_set h m S))) := by
  have start : f_MD_text (md_set h m S) m x y = (if zi (¬ ∃ i, i < N ∧ x = nI i) = 0 then (if y < -1 then some (-1, md_set h m S) else ((hp_ix x 20).map (S.2 5)).bind fun x9 => if y < x9 then (if 0 ≤ y then ((hp_ix (x * 21 + y) 420).map (S.2 6)).bind fun x15 => some (x15, md_set h m S) else ((hp_ix x 20).map (S.2 5)).bind fun x19 => some (x19, md_set h m S)) else some (-1, md_set h m S)) else some (-1, md_set h m S)) := by
    unfold f_MD_text
    simp only [md_o, Option.bind_some]
    rw [md_none h m hN h4]
    simp only [Option.bind_some, md_r5, md_a5, md_r6, md_a6]
  refine ⟨fun hb => ?_, fun i hi hx => ?_⟩
  · rw [start, if_neg (fun z => zi_eq0.mp z hb)]
  · obtain ⟨⟨a1, a2, a3, a4, a5⟩, -⟩ := hV i hi
    have go : f_MD_text (md_set h m S) m x y = (if y < -1 then some (-1, md_set h m S) else if y < nI (tl S i) then (if 0 ≤ y then ((hp_ix (nI i * 21 + y) 420).map (S.2 6)).bind fun x15 => some (x15, md_set h m S) else some (nI (tl S i), md_set h m S)) else some (-1, md_set h m S)) := by
      rw [start, if_pos (zi_eq0.mpr (fun z => z ⟨i, hi, hx⟩)), hx, hp_ix_nI a1 (by decide)]
      simp only [Option.map_some, Option.bind_some, a2]
    refine ⟨fun hy => ?_, fun j hj hy => ?_, fun hy => ?_⟩
    · rw [go, hy, if_neg (by decide), if_pos, if_neg (by decide)]
      refine Int32.lt_iff_toInt_lt.mpr ?_
      rw [nI_toInt (by omega), show (-1 : Int32).toInt = -1 by decide]
      omega
    · rw [go, hy, if_neg (fun z => by
        have := Int32.lt_iff_toInt_lt.mp z
        rw [nI_toInt (by omega), show (-1 : Int32).toInt = -1 by decide] at this
        omega), if_pos (nI_lt hj (by omega)), if_pos (nI_pos' (by omega)), show nI i * 21 + nI j = nI (i * 21 + j) by rw [show (21 : Int32) = nI 21 from rfl, pk_mul, nI_add], hp_ix_nI (show i * 21 + j < 420 by omega) (by decide)]
      rfl
    · rw [go]
      by_cases h1 : y < -1
      · rw [if_pos h1]
      · rw [if_neg h1]
        by_cases h2 : y < nI (tl S i)
        · exfalso
          have b1 := Int32.le_iff_toInt_le.mp (Int32.not_lt.mp h1)
          have b2 := Int32.lt_iff_toInt_lt.mp h2
          rw [nI_toInt (by omega)] at b2
          rw [show (-1 : Int32).toInt = -1 by decide] at b1
          have b3 : y.toInt ≠ -1 := fun z => hy.1 (Int32.toInt_inj.mp (by rw [z]; decide))
          refine hy.2 ⟨y.toInt.toNat, by omega, Int32.toInt_inj.mp ?_⟩
          rw [nI_toInt (by omega)]
          omega
        · rw [if_neg h2]
theorem md_holders {S : MS} {N R : Nat} (hN : N ≤ 20) (hR : ResV S N R) (c : Int32) : f_MD_holders (md_set h m S) m c = some (smF (bitE S c) R 0 0, md_set h m S) := by
  obtain ⟨r1, r2, r3⟩ := hR
  have key : ∀ (f e : Nat) (a : Int32), e ≤ R → R - e < f → f_MD_holders_L4 f m c a (nI e) (md_set h m S) = some (smF (bitE S c) (R - e) e a, md_set h m S) := by
    intro f
    induction f with
    | zero => intro e a _ hf; omega
    | succ f ih =>
      intro e a he hf
      simp only [f_MD_holders_L4, md_i18, Option.bind_some, r2]
      by_cases hlt : e < R
      · rw [if_neg (nI_ge hlt (by omega)), show R - e = (R - (e + 1)) + 1 by omega, smF]
        obtain ⟨b, b1, b2⟩ := r3 e hlt
        have hbit : bitE S c e = (S.2 9 b >>> (c &&& 31)) &&& 1 := by unfold bitE; rw [b2, nI_clamp (by omega)]
        simp only [md_r20, md_a20, md_r9, md_a9, Option.bind_some, hp_ix_nI (show e < 40 by omega) (by decide), Option.map_some, b2, hp_ix_nI (show b < 20 by omega) (by decide)]
        rw [← hbit, nI_1, ih (e + 1) _ (by omega) (by omega)]
      · have hkN : e = R := by omega
        subst hkN
        rw [if_pos (nI_le (Nat.le_refl _) (by omega)), Nat.sub_self, smF]
  have := key FU 0 0 (Nat.zero_le _) (FU_big (by omega))
  rw [nI_0, Nat.sub_zero] at this
  unfold f_MD_holders
  exact this
theorem md_count {S : MS} {N R len : Nat} (hN : N ≤ 20) (hR : ResV S N R) (h4 : S.1 4 = nI N) (x : Int32) :
    (x = 0 → f_MD_count (md_set h m S) m x = some (nI N, md_set h m S)) ∧
    (x = 1 → f_MD_count (md_set h m S) m x = some (cnF (fun i => S.2 8 i ≠ 0) N 0 0, md_set h m S)) ∧
    (x = 2 → f_MD_count (md_set h m S) m x = some (S.1 0, md_set h m S)) ∧
    (x = 3 → f_MD_count (md_set h m S) m x = some (nI R, md_set h m S)) ∧
    (x = 4 → f_MD_count (md_set h m S) m x = some (gmF (S.2 21) R 0 0, md_set h m S)) ∧
    (x = 5 → f_MD_count (md_set h m S) m x = some (cnF (fun c => 1 < smF (bitE S (nI c)) R 0 0) 32 0 0, md_set h m S)) ∧
    ((x ≠ 0 ∧ x ≠ 1 ∧ x ≠ 2 ∧ x ≠ 3 ∧ x ≠ 4 ∧ x ≠ 5) → f_MD_count (md_set h m S) m x = some (-1, md_set h m S)) := by
  obtain ⟨r1, r2, r3⟩ := id hR
  have l9 : ∀ (f e : Nat) (a : Int32), e ≤ N → N - e < f → f_MD_count_L9 f m x a (nI e) (md_set h m S) = f_MD_count_L35 m x (cnF (fun i => S.2 8 i ≠ 0) (N - e) e a) (md_set h m S) := by
    intro f
    induction f with
    | zero => intro e a _ hf; omega
    | succ f ih =>
      intro e a he hf
      simp only [f_MD_count_L9, md_i4, Option.bind_some, h4]
      by_cases hlt : e < N
      · rw [if_neg (nI_ge hlt (by omega)), show N - e = (N - (e + 1)) + 1 by omega, cnF]
        simp only [md_r8, md_a8, Option.bind_some, hp_ix_nI (show e < 20 by omega) (by decide), Option.map_some]
        by_cases h8 : S.2 8 e = 0
        · rw [if_pos h8, if_neg (fun z => z h8), nI_1, ih (e + 1) a (by omega) (by omega)]
        · rw [if_neg h8, if_pos h8, nI_1, ih (e + 1) (a + 1) (by omega) (by omega)]
      · have hkN : e = N := by omega
        subst hkN
        rw [if_pos (nI_le (Nat.le_refl _) (by omega)), Nat.sub_self, cnF]
  have l42 : ∀ (f e : Nat) (a : Int32), e ≤ R → R - e < f → f_MD_count_L42 f m x a (nI e) (md_set h m S) = f_MD_count_L73 m x (gmF (S.2 21) (R - e) e a) (md_set h m S) := by
    intro f
    induction f with
    | zero => intro e a _ hf; omega
    | succ f ih =>
      intro e a he hf
      simp only [f_MD_count_L42, md_i18, Option.bind_some, r2]
      by_cases hlt : e < R
      · rw [if_neg (nI_ge hlt (by omega)), show R - e = (R - (e + 1)) + 1 by omega, gmF]
        simp only [md_r21, md_a21, Option.bind_some, hp_ix_nI (show e < 40 by omega) (by decide), Option.map_some]
        by_cases h8 : S.2 21 e ≤ a
        · rw [if_pos h8, if_pos h8, nI_1, ih (e + 1) a (by omega) (by omega)]
        · rw [if_neg h8, if_neg h8, nI_1, ih (e + 1) _ (by omega) (by omega)]
      · have hkN : e = R := by omega
        subst hkN
        rw [if_pos (nI_le (Nat.le_refl _) (by omega)), Nat.sub_self, gmF]
  have l80 : ∀ (f c : Nat) (a : Int32), c ≤ 32 → 32 - c < f → f_MD_count_L80 f m x a (nI c) (md_set h m S) = f_MD_count_L104 m x (cnF (fun c => 1 < smF (bitE S (nI c)) R 0 0) (32 - c) c a) (md_set h m S) := by
    intro f
    induction f with
    | zero => intro c a _ hf; omega
    | succ f ih =>
      intro c a hc hf
      simp only [f_MD_count_L80]
      by_cases hlt : c < 32
      · rw [if_neg (show ¬ (32 : Int32) ≤ nI c from nI_ge (b := 32) hlt (by omega)), show 32 - c = (32 - (c + 1)) + 1 by omega, cnF]
        simp only [md_o, Option.bind_some]
        rw [md_holders h m hN hR (nI c)]
        simp only [Option.bind_some]
        by_cases h8 : smF (bitE S (nI c)) R 0 0 ≤ 1
        · rw [if_pos h8, if_neg (Int32.not_lt.mpr h8), nI_1, ih (c + 1) a (by omega) (by omega)]
        · rw [if_neg h8, if_pos (Int32.not_le.mp h8), nI_1, ih (c + 1) _ (by omega) (by omega)]
      · have hkN : c = 32 := by omega
        subst hkN
        rw [if_pos (show (32 : Int32) ≤ nI 32 from nI_le (Nat.le_refl _) (by omega)), Nat.sub_self, cnF]
  have k9 := l9 FU 0 0 (Nat.zero_le _) (FU_big (by omega))
  have k42 := fun a => l42 FU 0 a (Nat.zero_le _) (FU_big (by omega))
  have k80 := fun a => l80 FU 0 a (Nat.zero_le _) (FU_big (by omega))
  simp only [nI_0, Nat.sub_zero] at k9 k42 k80
  unfold f_MD_count
  refine ⟨fun hx => ?_, fun hx => ?_, fun hx => ?_, fun hx => ?_, fun hx => ?_, fun hx => ?_, fun ⟨x0, x1, x2, x3, x4, x5⟩ => ?_⟩
  · subst hx
    simp [f_MD_count_L35, f_MD_count_L73, f_MD_count_L104, md_i4, h4]
  · subst hx
    rw [if_pos rfl, k9]
    simp [f_MD_count_L35, f_MD_count_L73, f_MD_count_L104]
  · subst hx
    simp [f_MD_count_L35, f_MD_count_L73, f_MD_count_L104, md_i0]
  · subst hx
    simp [f_MD_count_L35, f_MD_count_L73, f_MD_count_L104, md_i18, r2]
  · subst hx
    rw [if_neg (by decide), f_MD_count_L35, if_pos rfl, k42]
    simp [f_MD_count_L73, f_MD_count_L104]
  · subst hx
    rw [if_neg (by decide), f_MD_count_L35, if_neg (by decide), f_MD_count_L73, if_pos rfl, k80]
    simp [f_MD_count_L104]
  · rw [if_neg x1, f_MD_count_L35, if_neg x4, f_MD_count_L73, if_neg x5, f_MD_count_L104, if_neg x0, if_neg x2, if_neg x3, if_neg x1, if_neg x4, if_neg x5]
end MDZ
