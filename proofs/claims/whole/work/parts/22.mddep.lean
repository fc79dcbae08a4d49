/-! ===== the reference: depend, exclude, pack, retire, text ===== -/
/-- the line is a name, a colon, a range -/
def LineR (c : Nat → Int32) (len : Nat) : Prop := NmP c 0 (fx c 58 0 len) ∧ fx c 58 0 len ≠ len ∧ RgP c (fx c 58 0 len + 1) len
def DepT (S S' : MS) (i d len : Nat) (y2 : Int32) : Prop := (S'.1 0 = 0 ∧ S'.1 4 = S.1 4 ∧ S'.1 17 = S.1 17 ∧ S'.1 18 = S.1 18) ∧ (∀ k, k ≠ 3 → k ≠ 10 → k ≠ 11 → k ≠ 12 → k ≠ 13 → S'.2 k = S.2 k) ∧ S'.2 10 = va_up (S.2 10) i (nI (d + 1)) ∧ S'.2 11 = va_up (S.2 11) (i * 6 + d) (vp_nar .boolean y2) ∧ S'.2 12 = va_up (S.2 12) (i * 6 + d) (nI len) ∧ (∀ j, (j < (i * 6 + d) * 40 ∨ (i * 6 + d) * 40 + len ≤ j) → S'.2 13 j = S.2 13 j) ∧ ∀ j, j < len → S'.2 13 ((i * 6 + d) * 40 + j) = S.2 1 j
section MDW
variable (h : hp_H) (m : Nat)
theorem md_depend {S : MS} {len N : Nat} (hlen : len ≤ 40) (h0 : S.1 0 = nI len) (h4 : S.1 4 = nI N) (hN : N ≤ 20) (x y2 : Int32) :
    ((¬ ∃ i, i < N ∧ x = nI i) → ∃ S', f_MD_depend (md_set h m S) m x y2 = some (-1, md_set h m S') ∧ Vw (tkS S) S') ∧
    (∀ i, i < N → x = nI i → ¬ LineR (S.2 1) len → ∃ S', f_MD_depend (md_set h m S) m x y2 = some (-3, md_set h m S') ∧ Vw (tkS S) S') ∧
    (∀ i, i < N → x = nI i → LineR (S.2 1) len → S.2 10 i = nI 6 → ∃ S', f_MD_depend (md_set h m S) m x y2 = some (-2, md_set h m S') ∧ Vw (tkS S) S') ∧
    (∀ i d, i < N → x = nI i → LineR (S.2 1) len → d < 6 → S.2 10 i = nI d → ∃ S', f_MD_depend (md_set h m S) m x y2 = some (nI d, md_set h m S') ∧ DepT S S' i d len y2) := by
  obtain ⟨S1, t1, t2, t3, t4⟩ := md_take h m hlen h0
  have hT : Tkn S S1 len := ⟨t2, t3, t4⟩
  have e4 : S1.1 4 = nI N := by rw [t2]; simp [va_up, h4]
  obtain ⟨g1, g2, g3, g4⟩ := fx_spec (S.2 1) 58 len 0
  have hfx := hT.fx 58
  have hnm : NmP (S1.2 3) 0 (fx (S.2 1) 58 0 len) ↔ NmP (S.2 1) 0 (fx (S.2 1) 58 0 len) := NmP_congr (fun k _ k2 => t4 k (by omega))
  have hrg : RgP (S1.2 3) (fx (S.2 1) 58 0 len + 1) len ↔ RgP (S.2 1) (fx (S.2 1) 58 0 len + 1) len := RgP_congr (fun k _ k2 => t4 k (by omega))
  have start : f_MD_depend (md_set h m S) m x y2 = (if zi (¬ ∃ i, i < N ∧ x = nI i) = 0 then (if zi (NmP (S.2 1) 0 (fx (S.2 1) 58 0 len)) = 0 then some (-3, md_set h m S1) else if nI (fx (S.2 1) 58 0 len) = nI len then some (-3, md_set h m S1) else if zi (RgP (S.2 1) (fx (S.2 1) 58 0 len + 1) len) = 0 then some (-3, md_set h m S1) else
      ((hp_ix x 20).map (S1.2 10)).bind fun x31 => if x31 = 6 then some (-2, md_set h m S1) else ((hp_ix x 20).map (S1.2 10)).bind fun x36 => f_MD_depend_L83 FU m x y2 (x * 6 + x36) 0 (md_set h m S1)) else some (-1, md_set h m S1)) := by
    unfold f_MD_depend
    rw [md_o, Option.bind_some, t1, Option.bind_some, md_o, Option.bind_some, md_none h m hN e4, Option.bind_some]
    split
    · rw [md_o, Option.bind_some, md_colonAt h m S1 hlen hT.n, hfx, Option.bind_some, md_o, Option.bind_some, show (0 : Int32) = nI 0 from rfl, md_isName h m S1 (Nat.zero_le _) (by omega), Option.bind_some, zi_congr hnm]
      split
      · rfl
      · simp only [md_i2, Option.bind_some, hT.n]
        split
        · rfl
        · rename_i hne
          have hq : fx (S.2 1) 58 0 len + 1 ≤ len := by
            rcases Nat.lt_or_ge (fx (S.2 1) 58 0 len) len with z | z
            · omega
            · exact absurd (by rw [show fx (S.2 1) 58 0 len = len by omega]) hne
          rw [md_o, Option.bind_some, show nI (fx (S.2 1) 58 0 len) + 1 = nI (fx (S.2 1) 58 0 len + 1) from nI_1 _, md_isRange h m S1 hq hlen, Option.bind_some, zi_congr hrg]
          split
          · rfl
          · simp only [md_r10, md_a10, Option.bind_some]
    · rfl
  refine ⟨fun hno => ⟨S1, ?_, hT.vw⟩, fun i hi hx hbad => ⟨S1, ?_, hT.vw⟩, fun i hi hx hok h6 => ⟨S1, ?_, hT.vw⟩, fun i d hi hx hok hd h10 => ?_⟩
  · rw [start, if_neg (fun z => zi_eq0.mp z hno)]
  · rw [start, if_pos (zi_eq0.mpr (fun z => z ⟨i, hi, hx⟩))]
    by_cases a1 : NmP (S.2 1) 0 (fx (S.2 1) 58 0 len)
    · rw [if_neg (fun z => zi_eq0.mp z a1)]
      by_cases a2 : fx (S.2 1) 58 0 len = len
      · rw [if_pos (by rw [a2])]
      · rw [if_neg (by rw [nI_eq (by omega) (by omega)]; exact a2), if_pos (zi_eq0.mpr (fun a3 => hbad ⟨a1, a2, a3⟩))]
    · rw [if_pos (zi_eq0.mpr a1)]
  · rw [start, if_pos (zi_eq0.mpr (fun z => z ⟨i, hi, hx⟩)), if_neg (fun z => zi_eq0.mp z hok.1), if_neg (by rw [nI_eq (by omega) (by omega)]; exact hok.2.1), if_neg (fun z => zi_eq0.mp z hok.2.2), hx, hp_ix_nI (show i < 20 by omega) (by decide), Option.map_some, Option.bind_some, t3 10 (by decide), h6, if_pos (show nI 6 = (6 : Int32) from rfl)]
  · have hgo : f_MD_depend (md_set h m S) m x y2 = f_MD_depend_L83 FU m (nI i) y2 (nI (i * 6 + d)) 0 (md_set h m S1) := by
      rw [start, if_pos (zi_eq0.mpr (fun z => z ⟨i, hi, hx⟩)), if_neg (fun z => zi_eq0.mp z hok.1), if_neg (by rw [nI_eq (by omega) (by omega)]; exact hok.2.1), if_neg (fun z => zi_eq0.mp z hok.2.2), hx, hp_ix_nI (show i < 20 by omega) (by decide), Option.map_some, Option.bind_some, t3 10 (by decide), h10, if_neg (show ¬ nI d = (6 : Int32) from fun z => absurd ((nI_eq (b := 6) (by omega) (by omega)).mp z) (by omega)), Option.bind_some, show nI i * 6 + nI d = nI (i * 6 + d) by rw [show (6 : Int32) = nI 6 from rfl, pk_mul, nI_add]]
    obtain ⟨S', e1, e2, e3, e4', e5, e6, e7, e8⟩ := md_dep_83 h m (D := i * 6 + d) (y2 := y2) (show i < 20 by omega) hd rfl hlen FU 0 S1 hT.n (by rw [t3 10 (by decide)]; exact h10) (Nat.zero_le _) (FU_big (by omega))
    rw [nI_0] at e1
    refine ⟨S', hgo.trans e1, ⟨?_, ?_, ?_, ?_⟩, fun k k3 k10 k11 k12 k13 => ?_, ?_, ?_, ?_, fun j hj => ?_, fun j hj => ?_⟩
    · rw [e2, t2]; simp [va_up]
    · rw [e2, t2]; simp [va_up]
    · rw [e2, t2]; simp [va_up]
    · rw [e2, t2]; simp [va_up]
    · rw [e3 k k10 k11 k12 k13, t3 k k3]
    · rw [e4', t3 10 (by decide)]
    · rw [e5, t3 11 (by decide)]
    · rw [e6, t3 12 (by decide)]
    · rw [e7 j (by omega), t3 13 (by decide)]
    · rw [e8 j (Nat.zero_le _) hj, t4 j hj]
theorem md_exc_79 {D e E len : Nat} (hD : D < 120) (he : e < 3) (hE : E = D * 3 + e) (hlen : len ≤ 8) : ∀ (f k : Nat) (S : MS), S.1 2 = nI len → S.2 14 D = nI e → k ≤ len → len - k < f → ∃ S' : MS, f_MD_exclude_L79 f m (nI D) (nI E) (nI k) (md_set h m S) = some (0, md_set h m S') ∧ S'.1 = S.1 ∧ (∀ j, j ≠ 14 → j ≠ 15 → j ≠ 16 → S'.2 j = S.2 j) ∧ S'.2 14 = va_up (S.2 14) D (nI (e + 1)) ∧ S'.2 15 = va_up (S.2 15) E (nI len) ∧ (∀ j, (j < E * 8 + k ∨ E * 8 + len ≤ j) → S'.2 16 j = S.2 16 j) ∧ ∀ j, k ≤ j → j < len → S'.2 16 (E * 8 + j) = S.2 3 j := by
  intro f
  induction f with
  | zero => intro k S _ _ _ hn; omega
  | succ f ih =>
    intro k S h2 h14 hk hn
    simp only [f_MD_exclude_L79, md_i2, Option.bind_some, h2]
    by_cases hlt : k < len
    · rw [if_neg (nI_ge hlt (by omega)), show nI E * 8 + nI k = nI (E * 8 + k) by rw [show (8 : Int32) = nI 8 from rfl, pk_mul, nI_add]]
      simp only [md_r3, md_r16, md_a3, md_s16, Option.bind_some, hp_ix_nI (show k < 40 by omega) (by decide), hp_ix_nI (show E * 8 + k < 2880 by omega) (by decide), Option.map_some]
      rw [nI_1]
      obtain ⟨S', e1, e2, e3, e4, e5, e6, e7⟩ := ih (k + 1) (S.1, va_up S.2 16 (va_up (S.2 16) (E * 8 + k) (S.2 3 k))) h2 (by simp [va_up, h14]) (by omega) (by omega)
      refine ⟨S', e1, e2, fun j j1 j2 j3 => ?_, ?_, ?_, fun j hj => ?_, fun j j1 j2 => ?_⟩
      · rw [e3 j j1 j2 j3]; exact va_up_ne _ _ j3
      · rw [e4]; simp [va_up]
      · rw [e5]; simp [va_up]
      · rw [e6 j (by omega)]; simp [va_up, show ¬ j = E * 8 + k by omega]
      · by_cases hjk : j = k
        · subst hjk; rw [e6 (E * 8 + j) (by omega)]; simp [va_up]
        · rw [e7 j (by omega) j2]; simp [va_up]
    · have hkN : k = len := by omega
      subst hkN
      rw [if_pos (nI_le (Nat.le_refl _) (by omega))]
      simp only [md_r15, md_s15, md_r14, md_a14, md_s14, Option.bind_some, hp_ix_nI (show D < 120 by omega) (by decide), hp_ix_nI (show E < 360 by omega) (by decide), Option.map_some]
      have x14 : (va_up S.2 15 (va_up (S.2 15) E (nI k))) 14 = S.2 14 := by simp [va_up]
      simp only [x14, h14]
      rw [nI_1]
      refine ⟨_, rfl, rfl, fun j j1 j2 j3 => ?_, ?_, ?_, fun j hj => ?_, fun j j1 j2 => absurd j2 (by omega)⟩
      · simp [va_up, j1, j2]
      · simp [va_up]
      · simp [va_up]
      · simp [va_up]
def ExcT (S S' : MS) (D e len : Nat) : Prop := (S'.1 0 = 0 ∧ S'.1 4 = S.1 4 ∧ S'.1 17 = S.1 17 ∧ S'.1 18 = S.1 18) ∧ (∀ k, k ≠ 3 → k ≠ 14 → k ≠ 15 → k ≠ 16 → S'.2 k = S.2 k) ∧ S'.2 14 = va_up (S.2 14) D (nI (e + 1)) ∧ S'.2 15 = va_up (S.2 15) (D * 3 + e) (nI len) ∧ (∀ j, (j < (D * 3 + e) * 8 ∨ (D * 3 + e) * 8 + len ≤ j) → S'.2 16 j = S.2 16 j) ∧ ∀ j, j < len → S'.2 16 ((D * 3 + e) * 8 + j) = S.2 1 j
theorem md_exclude {S : MS} {len N : Nat} (hlen : len ≤ 40) (h0 : S.1 0 = nI len) (h4 : S.1 4 = nI N) (hN : N ≤ 20) (x : Int32) :
    ((¬ ∃ i, i < N ∧ x = nI i) → ∃ S', f_MD_exclude (md_set h m S) m x = some (-1, md_set h m S') ∧ Vw (tkS S) S') ∧
    (∀ i, i < N → x = nI i → S.2 10 i = nI 0 → ∃ S', f_MD_exclude (md_set h m S) m x = some (-1, md_set h m S') ∧ Vw (tkS S) S') ∧
    (∀ i d, i < N → x = nI i → d < 6 → S.2 10 i = nI (d + 1) → ¬ NmP (S.2 1) 0 len → ∃ S', f_MD_exclude (md_set h m S) m x = some (-3, md_set h m S') ∧ Vw (tkS S) S') ∧
    (∀ i d, i < N → x = nI i → d < 6 → S.2 10 i = nI (d + 1) → NmP (S.2 1) 0 len → S.2 14 (i * 6 + d) = nI 3 → ∃ S', f_MD_exclude (md_set h m S) m x = some (-2, md_set h m S') ∧ Vw (tkS S) S') ∧
    (∀ i d e, i < N → x = nI i → d < 6 → S.2 10 i = nI (d + 1) → NmP (S.2 1) 0 len → e < 3 → S.2 14 (i * 6 + d) = nI e → ∃ S', f_MD_exclude (md_set h m S) m x = some (0, md_set h m S') ∧ ExcT S S' (i * 6 + d) e len) := by
  obtain ⟨S1, t1, t2, t3, t4⟩ := md_take h m hlen h0
  have hT : Tkn S S1 len := ⟨t2, t3, t4⟩
  have e4 : S1.1 4 = nI N := by rw [t2]; simp [va_up, h4]
  have hnm : NmP (S1.2 3) 0 len ↔ NmP (S.2 1) 0 len := NmP_congr (fun k _ k2 => t4 k (by omega))
  have start : f_MD_exclude (md_set h m S) m x = (if zi (¬ ∃ i, i < N ∧ x = nI i) = 0 then (((hp_ix x 20).map (S.2 10)).bind fun x12 => if x12 = 0 then some (-1, md_set h m S1) else if zi (NmP (S.2 1) 0 len) = 0 then some (-3, md_set h m S1) else
      ((hp_ix x 20).map (S.2 10)).bind fun x24 => ((hp_ix (x * 6 + x24 - 1) 120).map (S.2 14)).bind fun x28 => if x28 = 3 then some (-2, md_set h m S1) else ((hp_ix (x * 6 + x24 - 1) 120).map (S.2 14)).bind fun x33 => f_MD_exclude_L79 FU m (x * 6 + x24 - 1) ((x * 6 + x24 - 1) * 3 + x33) 0 (md_set h m S1)) else some (-1, md_set h m S1)) := by
    unfold f_MD_exclude
    rw [md_o, Option.bind_some, t1, Option.bind_some, md_o, Option.bind_some, md_none h m hN e4, Option.bind_some]
    split
    · simp only [md_r10, md_a10, Option.bind_some, t3 10 (by decide), md_i2, hT.n, md_o]
      congr 1
      funext x12
      split
      · rfl
      · rw [show (0 : Int32) = nI 0 from rfl, md_isName h m S1 (Nat.zero_le _) hlen, Option.bind_some, zi_congr hnm]
        split
        · rfl
        · simp only [md_r10, md_a10, md_r14, md_a14, Option.bind_some, t3 10 (by decide), t3 14 (by decide)]
    · rfl
  have ix : ∀ i d, i < N → d < 6 → nI i * 6 + nI (d + 1) - 1 = nI (i * 6 + d) := fun i d _ _ => by
    rw [show (6 : Int32) = nI 6 from rfl, pk_mul, nI_add, show i * 6 + (d + 1) = (i * 6 + d) + 1 by omega]
    exact nI_pred _
  have pos : ∀ d, d < 6 → ¬ nI (d + 1) = 0 := fun d hd => nI_ne0 (by omega) (by omega)
  refine ⟨fun hno => ⟨S1, ?_, hT.vw⟩, fun i hi hx hz => ⟨S1, ?_, hT.vw⟩, fun i d hi hx hd h10 hbad => ⟨S1, ?_, hT.vw⟩, fun i d hi hx hd h10 hok h3 => ⟨S1, ?_, hT.vw⟩, fun i d e hi hx hd h10 hok he h14 => ?_⟩
  · rw [start, if_neg (fun z => zi_eq0.mp z hno)]
  · rw [start, if_pos (zi_eq0.mpr (fun z => z ⟨i, hi, hx⟩)), hx, hp_ix_nI (show i < 20 by omega) (by decide), Option.map_some, Option.bind_some, hz, if_pos nI_0]
  · rw [start, if_pos (zi_eq0.mpr (fun z => z ⟨i, hi, hx⟩)), hx, hp_ix_nI (show i < 20 by omega) (by decide), Option.map_some, Option.bind_some, h10, if_neg (pos d hd), if_pos (zi_eq0.mpr hbad)]
  · rw [start, if_pos (zi_eq0.mpr (fun z => z ⟨i, hi, hx⟩)), hx, hp_ix_nI (show i < 20 by omega) (by decide), Option.map_some, Option.bind_some, h10, if_neg (pos d hd), if_neg (fun z => zi_eq0.mp z hok), Option.bind_some, ix i d hi hd, hp_ix_nI (show i * 6 + d < 120 by omega) (by decide), Option.map_some, Option.bind_some, h3, if_pos (show nI 3 = (3 : Int32) from rfl)]
  · have hgo : f_MD_exclude (md_set h m S) m x = f_MD_exclude_L79 FU m (nI (i * 6 + d)) (nI ((i * 6 + d) * 3 + e)) 0 (md_set h m S1) := by
      rw [start, if_pos (zi_eq0.mpr (fun z => z ⟨i, hi, hx⟩)), hx, hp_ix_nI (show i < 20 by omega) (by decide), Option.map_some, Option.bind_some, h10, if_neg (pos d hd), if_neg (fun z => zi_eq0.mp z hok), Option.bind_some, ix i d hi hd, hp_ix_nI (show i * 6 + d < 120 by omega) (by decide), Option.map_some, Option.bind_some, h14, if_neg (show ¬ nI e = (3 : Int32) from fun z => absurd ((nI_eq (b := 3) (by omega) (by omega)).mp z) (by omega)), Option.bind_some, show nI (i * 6 + d) * 3 + nI e = nI ((i * 6 + d) * 3 + e) by rw [show (3 : Int32) = nI 3 from rfl, pk_mul, nI_add]]
    obtain ⟨S', e1, e2, e3, e4', e5, e6, e7⟩ := md_exc_79 h m (D := i * 6 + d) (e := e) (by omega) he rfl (by have := hok.2.1; omega) FU 0 S1 hT.n (by rw [t3 14 (by decide)]; exact h14) (Nat.zero_le _) (FU_big (by omega))
    rw [nI_0] at e1
    refine ⟨S', hgo.trans e1, ⟨?_, ?_, ?_, ?_⟩, fun k k3 k14 k15 k16 => ?_, ?_, ?_, fun j hj => ?_, fun j hj => ?_⟩
    · rw [e2, t2]; simp [va_up]
    · rw [e2, t2]; simp [va_up]
    · rw [e2, t2]; simp [va_up]
    · rw [e2, t2]; simp [va_up]
    · rw [e3 k k14 k15 k16, t3 k k3]
    · rw [e4', t3 14 (by decide)]
    · rw [e5, t3 15 (by decide)]
    · rw [e6 j (by omega), t3 16 (by decide)]
    · rw [e7 j (Nat.zero_le _) hj, t4 j hj]
/-- what pack makes of the classes -/
def pkc (x cls on : Int32) : Int32 := if (if (x >>> (cls &&& 31)) &&& 1 = 0 then (0 : Int32) else 1) = on then x else x ^^^ ((1 : Int32) <<< (cls &&& 31))
theorem md_pack {S : MS} {N : Nat} (h4 : S.1 4 = nI N) (hN : N ≤ 20) (x cls on : Int32) :
    ((¬ (∃ i, i < N ∧ x = nI i) ∨ cls < 0 ∨ ¬ cls ≤ 31) → f_MD_pack (md_set h m S) m x cls on = some (-1, md_set h m S)) ∧
    (∀ i, i < N → x = nI i → ¬ cls < 0 → cls ≤ 31 → ∃ S', f_MD_pack (md_set h m S) m x cls on = some (0, md_set h m S') ∧ S'.1 = S.1 ∧ (∀ k, k ≠ 9 → S'.2 k = S.2 k) ∧ S'.2 9 = va_up (S.2 9) i (pkc (S.2 9 i) cls on)) := by
  have start : f_MD_pack (md_set h m S) m x cls on = (if zi (¬ ∃ i, i < N ∧ x = nI i) = 0 then (if cls < 0 then some (-1, md_set h m S) else if cls ≤ 31 then (((hp_ix x 20).map (S.2 9)).bind fun x10 => if (x10 >>> (cls &&& 31)) &&& 1 = 0 then f_MD_pack_L38 m x cls on 0 (md_set h m S) else f_MD_pack_L38 m x cls on 1 (md_set h m S)) else some (-1, md_set h m S)) else some (-1, md_set h m S)) := by
    unfold f_MD_pack
    rw [md_o, Option.bind_some, md_none h m hN h4, Option.bind_some]
    simp only [md_r9, md_a9, Option.bind_some]
  refine ⟨fun hb => ?_, fun i hi hx h1 h2 => ?_⟩
  · rw [start]
    by_cases a1 : ∃ i, i < N ∧ x = nI i
    · rw [if_pos (zi_eq0.mpr (fun z => z a1))]
      by_cases a2 : cls < 0
      · rw [if_pos a2]
      · rw [if_neg a2]
        by_cases a3 : cls ≤ 31
        · exact absurd hb (fun z => z.elim (fun z => z a1) (fun z => z.elim a2 (fun z => z a3)))
        · rw [if_neg a3]
    · rw [if_neg (fun z => zi_eq0.mp z a1)]
  · rw [start, if_pos (zi_eq0.mpr (fun z => z ⟨i, hi, hx⟩)), if_neg h1, if_pos h2, hx, hp_ix_nI (show i < 20 by omega) (by decide), Option.map_some, Option.bind_some]
    have fin : ∀ s0 : Int32, (if (S.2 9 i >>> (cls &&& 31)) &&& 1 = 0 then (0 : Int32) else 1) = s0 → ∃ S', f_MD_pack_L38 m (nI i) cls on s0 (md_set h m S) = some (0, md_set h m S') ∧ S'.1 = S.1 ∧ (∀ k, k ≠ 9 → S'.2 k = S.2 k) ∧ S'.2 9 = va_up (S.2 9) i (pkc (S.2 9 i) cls on) := by
      intro s0 hs0
      unfold f_MD_pack_L38 pkc
      rw [hs0]
      by_cases hs : s0 = on
      · rw [if_pos hs, if_pos hs]
        refine ⟨S, rfl, rfl, fun _ _ => rfl, ?_⟩
        funext j
        unfold va_up
        split
        · rename_i hj; rw [hj]
        · rfl
      · rw [if_neg hs, if_neg hs]
        simp only [md_r9, md_a9, md_s9, Option.bind_some, hp_ix_nI (show i < 20 by omega) (by decide), Option.map_some]
        exact ⟨_, rfl, rfl, fun k hk => va_up_ne _ _ hk, by simp [va_up]⟩
    split
    · rename_i hb; exact fin 0 (by rw [if_pos hb])
    · rename_i hb; exact fin 1 (by rw [if_neg hb])
theorem nar1 : vp_nar .boolean 1 = 1 := by decide
theorem nar0 : vp_nar .boolean 0 = 0 := by decide
theorem md_retire {S : MS} {N : Nat} (h4 : S.1 4 = nI N) (hN : N ≤ 20) (x : Int32) :
    ((¬ ∃ i, i < N ∧ x = nI i) → f_MD_retire (md_set h m S) m x = some (-1, md_set h m S)) ∧
    (∀ i, i < N → x = nI i → S.2 8 i ≠ 0 → f_MD_retire (md_set h m S) m x = some (-1, md_set h m S)) ∧
    (∀ i, i < N → x = nI i → S.2 8 i = 0 → f_MD_retire (md_set h m S) m x = some (0, md_set h m (S.1, va_up S.2 8 (va_up (S.2 8) i 1)))) := by
  have start : f_MD_retire (md_set h m S) m x = (if zi (¬ ∃ i, i < N ∧ x = nI i) = 0 then (((hp_ix x 20).map (S.2 8)).bind fun x8 => if x8 = 0 then ((hp_ix x 20).map fun q => md_set h m (S.1, va_up S.2 8 (va_up (S.2 8) q 1))).bind fun h13 => some (0, h13) else some (-1, md_set h m S)) else some (-1, md_set h m S)) := by
    unfold f_MD_retire
    rw [md_o, Option.bind_some, md_none h m hN h4, Option.bind_some]
    simp only [md_r8, md_a8, md_s8, Option.bind_some, nar1]
  refine ⟨fun hb => ?_, fun i hi hx h8 => ?_, fun i hi hx h8 => ?_⟩
  · rw [start, if_neg (fun z => zi_eq0.mp z hb)]
  · rw [start, if_pos (zi_eq0.mpr (fun z => z ⟨i, hi, hx⟩)), hx, hp_ix_nI (show i < 20 by omega) (by decide), Option.map_some, Option.bind_some, if_neg h8]
  · rw [start, if_pos (zi_eq0.mpr (fun z => z ⟨i, hi, hx⟩)), hx, hp_ix_nI (show i < 20 by omega) (by decide), Option.map_some, Option.bind_some, if_pos h8, Option.map_some, Option.bind_some]
end MDW
