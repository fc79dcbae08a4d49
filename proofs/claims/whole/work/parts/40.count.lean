/-! ===== find and count on both sides ===== -/
theorem enc_m1 {b : Option Nat} (hb : ∀ y, b = some y → y < 2 ^ 31) : enc b = -1 ↔ b = none := by
  cases b with
  | none => exact ⟨fun _ => rfl, fun _ => rfl⟩
  | some y =>
    refine ⟨fun h => ?_, (fun h => by cases h)⟩
    have h1 : nI y = -1 := h
    exact absurd (show nI y < 0 by rw [h1]; decide) (nI_pos (hb y rfl))
section FND
variable {g : hp_H} {x : Nat} {l p n u : Int32} {c : Nat → Int32} {A : Nat → Option Nat} {s d : Nat} {E : Nat → ES} {S : MS} {ga gd : Nat → Nat} {N R : Nat}
/-- entry e of the result, in the class -/
theorem cl_entry (ht : TbC (x + 35) g A S ga gd N) (hr : RsC (E s) S ga N R) (hs : s ≤ 1) {e : Nat} (he : e < R) : ∃ a, a < N ∧ S.2 20 e = nI a ∧ hp_aR (cb g x l p n u c A s d E) (some (x + 4 + 5 * s + 1)) 4 (nI e) = some (some (ga a)) ∧ hp_aI (cb g x l p n u c A s d E) (some (x + 4 + 5 * s + 2)) 0 (nI e) = some (S.2 21 e) ∧ hp_o (cb g x l p n u c A s d E) (some (ga a)) 3 = some (ga a) ∧ hp_fI (cb g x l p n u c A s d E) (some (ga a)) 3 6 = some (S.2 9 a) := by
  obtain ⟨rv, r1, r2⟩ := hr
  have hR := rv.1
  have hN := ht.1.1
  obtain ⟨a, a1, a2⟩ := rv.2.2 e he
  obtain ⟨v', ch, df, q1, -⟩ := (ht.2.2.1 a a1).2
  have ec := q1.2.2
  have elo := q1.1
  refine ⟨a, a1, a2, ?_, ?_, hp_o_of (by rw [cb_out (by omega)]; exact ec), hp_fI_of (by rw [cb_out (by omega)]; exact ec) rfl⟩
  · rw [hp_aR_at (cb_e1 hs) (by omega) (by decide), (r2 e he).1, a2, nI_clamp (by omega)]
  · rw [hp_aI_at (cb_e2 hs) (by omega) (by decide), (r2 e he).2.1]
theorem cl_giver_L (ht : TbC (x + 35) g A S ga gd N) (hr : RsC (E s) S ga N R) (hs : s ≤ 1) (dl : Int32) {k : Nat} (hk : k < 32) : ∀ (f e : Nat) (b : Option Nat), e ≤ R → R - e < f → (∀ y, b = some y → y < R) → f_EL_deepestGiver_L5 f (x + 4 + 5 * s) dl (nI k) (enc b) (nI e) (cb g x l p n u c A s d E) = some (enc (pkF (fun e => ¬ S.2 21 e < dl ∧ bitE S (nI k) e ≠ 0) (fun x y => S.2 21 y < S.2 21 x) (R - e) e b), (cb g x l p n u c A s d E)) := by
  have hR := hr.1.1
  intro f
  induction f with
  | zero => intro e b _ hf; omega
  | succ f ih =>
    intro e b he hf hb
    simp only [f_EL_deepestGiver_L5, cb_q4 hs, Option.bind_some, hr.2.1]
    by_cases hlt : e < R
    · obtain ⟨a, a1, a2, a3, a4, a5, a6⟩ := cl_entry (l := l) (p := p) (n := n) (u := u) (c := c) (d := d) ht hr hs hlt
      have hN := ht.1.1
      have hbit : bitE S (nI k) e = (S.2 9 a >>> (nI k &&& 31)) &&& 1 := by unfold bitE; rw [a2, nI_clamp (by omega)]
      rw [if_neg (nI_ge hlt (by omega)), show R - e = (R - (e + 1)) + 1 by omega, pkF]
      simp only [cb_q0 hs, cb_q1 hs, a3, a4, a5, Option.bind_some, f_AR_hasClass, a6]
      have skip : ¬ ((¬ S.2 21 e < dl ∧ bitE S (nI k) e ≠ 0) ∧ ∀ y, b = some y → S.2 21 y < S.2 21 e) → f_EL_deepestGiver_L5 f (x + 4 + 5 * s) dl (nI k) (enc b) (nI e + 1) (cb g x l p n u c A s d E) = some (enc (pkF (fun e => ¬ S.2 21 e < dl ∧ bitE S (nI k) e ≠ 0) (fun x y => S.2 21 y < S.2 21 x) (R - (e + 1)) (e + 1) (@ite _ ((¬ S.2 21 e < dl ∧ bitE S (nI k) e ≠ 0) ∧ ∀ y, b = some y → S.2 21 y < S.2 21 e) (Classical.propDecidable _) (some e) b)), (cb g x l p n u c A s d E)) := by
        intro hno
        rw [if_neg hno, nI_1]
        exact ih (e + 1) b (by omega) (by omega) hb
      have take : ((¬ S.2 21 e < dl ∧ bitE S (nI k) e ≠ 0) ∧ ∀ y, b = some y → S.2 21 y < S.2 21 e) → f_EL_deepestGiver_L5 f (x + 4 + 5 * s) dl (nI k) (nI e) (nI e + 1) (cb g x l p n u c A s d E) = some (enc (pkF (fun e => ¬ S.2 21 e < dl ∧ bitE S (nI k) e ≠ 0) (fun x y => S.2 21 y < S.2 21 x) (R - (e + 1)) (e + 1) (@ite _ ((¬ S.2 21 e < dl ∧ bitE S (nI k) e ≠ 0) ∧ ∀ y, b = some y → S.2 21 y < S.2 21 e) (Classical.propDecidable _) (some e) b)), (cb g x l p n u c A s d E)) := by
        intro hy
        rw [if_pos hy, nI_1]
        exact ih (e + 1) (some e) (by omega) (by omega) (fun y q => by cases q; exact hlt)
      by_cases c1 : S.2 21 e < dl
      · rw [if_pos c1]
        unfold f_EL_deepestGiver_L43 f_EL_deepestGiver_L44
        rw [if_pos rfl]
        exact skip (fun z => z.1.1 c1)
      · rw [if_neg c1]
        by_cases c2 : bitE S (nI k) e = 0
        · rw [if_pos ((bt_has hk).mpr (hbit ▸ c2)), Option.bind_some, if_pos rfl]
          unfold f_EL_deepestGiver_L43 f_EL_deepestGiver_L44
          rw [if_pos rfl]
          exact skip (fun z => z.1.2 c2)
        · rw [if_neg (fun z => c2 (hbit ▸ (bt_has hk).mp z)), Option.bind_some, if_neg (show ¬ (1 : Int32) = 0 by decide)]
          unfold f_EL_deepestGiver_L44
          rw [if_neg (show ¬ (1 : Int32) = 0 by decide)]
          cases b with
          | none => rw [if_pos (show enc none = -1 from rfl)]; exact take ⟨⟨c1, c2⟩, fun y q => by cases q⟩
          | some y =>
            have hy := hb y rfl
            obtain ⟨-, -, -, -, b4, -, -⟩ := cl_entry (l := l) (p := p) (n := n) (u := u) (c := c) (d := d) ht hr hs hy
            rw [if_neg (fun z => by have := (enc_m1 (b := some y) (fun y' q => by cases q; omega)).mp z; cases this)]
            show ((hp_fR (cb g x l p n u c A s d E) (some (x + 4 + 5 * s)) 2 1).bind fun x20 => (hp_aI (cb g x l p n u c A s d E) x20 0 (nI e)).bind fun x22 => (hp_fR (cb g x l p n u c A s d E) (some (x + 4 + 5 * s)) 2 1).bind fun x24 => (hp_aI (cb g x l p n u c A s d E) x24 0 (nI y)).bind fun x26 => _) = _
            simp only [cb_q1 hs, a4, b4, Option.bind_some]
            by_cases c4 : S.2 21 e ≤ S.2 21 y
            · rw [if_pos c4]
              exact skip (fun z => absurd (z.2 y rfl) (Int32.not_lt.mpr c4))
            · rw [if_neg c4]
              exact take ⟨⟨c1, c2⟩, fun y' q => by cases q; exact Int32.not_le.mp c4⟩
    · have : e = R := by omega
      subst this
      rw [if_pos (nI_le (Nat.le_refl _) (by omega)), Nat.sub_self]
      rfl
theorem cl_retired_L (ht : TbC (x + 35) g A S ga gd N) : ∀ (f i : Nat) (y : Int32), i ≤ N → N - i < f → f_LL_retiredArtifacts_L4 f x y (nI i) (cb g x l p (nI N) u c A s d E) = some (cnF (fun i => S.2 8 i ≠ 0) (N - i) i y, (cb g x l p (nI N) u c A s d E)) := by
  have hN := ht.1.1
  intro f
  induction f with
  | zero => intro i y _ hf; omega
  | succ f ih =>
    intro i y hi hf
    simp only [f_LL_retiredArtifacts_L4, cb_r2, cb_r1, Option.bind_some]
    by_cases hlt : i < N
    · obtain ⟨hA, v', ch, df, q1, -⟩ := ht.2.2.1 i hlt
      have elo := q1.1
      have ec := q1.2.2
      have e7 : hp_fI (cb g x l p (nI N) u c A s d E) (some (ga i)) 3 7 = some (S.2 8 i) := hp_fI_of (by rw [cb_out (by omega)]; exact ec) rfl
      rw [if_neg (nI_ge hlt (by omega)), show N - i = (N - (i + 1)) + 1 by omega, cnF, hp_aR_at cb_c3 (by omega) (by decide), hA]
      simp only [Option.bind_some, e7, nI_1]
      by_cases c1 : S.2 8 i = 0
      · rw [if_pos c1, if_neg (fun z => z c1)]
        exact ih (i + 1) y (by omega) (by omega)
      · rw [if_neg c1, if_pos c1]
        exact ih (i + 1) (y + 1) (by omega) (by omega)
    · have : i = N := by omega
      subst this
      rw [if_pos (nI_le (Nat.le_refl _) (by omega)), Nat.sub_self]
      rfl
theorem cl_greatest_L (ht : TbC (x + 35) g A S ga gd N) (hr : RsC (E s) S ga N R) (hs : s ≤ 1) : ∀ (f e : Nat) (y : Int32), e ≤ R → R - e < f → f_EL_greatestDepth_L4 f (x + 4 + 5 * s) y (nI e) (cb g x l p n u c A s d E) = some (gmF (S.2 21) (R - e) e y, (cb g x l p n u c A s d E)) := by
  have hR := hr.1.1
  intro f
  induction f with
  | zero => intro e y _ hf; omega
  | succ f ih =>
    intro e y he hf
    simp only [f_EL_greatestDepth_L4, cb_q4 hs, Option.bind_some, hr.2.1]
    by_cases hlt : e < R
    · obtain ⟨a, a1, a2, a3, a4, a5, a6⟩ := cl_entry (l := l) (p := p) (n := n) (u := u) (c := c) (d := d) ht hr hs hlt
      rw [if_neg (nI_ge hlt (by omega)), show R - e = (R - (e + 1)) + 1 by omega, gmF]
      simp only [cb_q1 hs, a4, Option.bind_some, f_JM_max, nI_1]
      by_cases c1 : S.2 21 e ≤ y
      · rw [if_neg (Int32.not_lt.mpr c1), Option.bind_some, if_pos c1]
        exact ih (e + 1) y (by omega) (by omega)
      · rw [if_pos (Int32.not_le.mp c1), Option.bind_some, if_neg c1]
        exact ih (e + 1) (S.2 21 e) (by omega) (by omega)
    · have : e = R := by omega
      subst this
      rw [if_pos (nI_le (Nat.le_refl _) (by omega)), Nat.sub_self]
      rfl
/-- the classes that more than one of the entries from e on has -/
def shF (cl : Nat → Int32) : Nat → Nat → Int32 → Int32 → Int32
  | 0, _, _, y => y
  | n + 1, e, z, y => shF cl n (e + 1) (z ||| cl e) (y ||| (z &&& cl e))
theorem shF_bt (cl : Nat → Int32) (j : Nat) : ∀ (n e k : Nat) (z y : Int32), bt z j = decide (1 ≤ k) → bt y j = decide (2 ≤ k) → bt (shF cl n e z y) j = decide (2 ≤ k + cB (fun e => bt (cl e) j) n e)
  | 0, e, k, z, y, _, h => by rw [shF, cB, Nat.add_zero]; exact h
  | n + 1, e, k, z, y, hz, hy => by
    rw [shF, cB]
    cases hc : bt (cl e) j with
    | false =>
      rw [shF_bt cl j n (e + 1) k (z ||| cl e) (y ||| (z &&& cl e)) (by rw [bt_or, hz, hc, Bool.or_false]) (by rw [bt_or, bt_and, hy, hc, Bool.and_false, Bool.or_false])]
      simp
    | true =>
      rw [shF_bt cl j n (e + 1) (k + 1) (z ||| cl e) (y ||| (z &&& cl e)) (by rw [bt_or, hc, Bool.or_true]; simp) (by
        rw [bt_or, bt_and, hz, hy, hc, Bool.and_true]
        by_cases h1 : 1 ≤ k
        · simp [h1]
        · simp [h1, show ¬ 2 ≤ k by omega])]
      simp only [if_true, ← Nat.add_assoc]
theorem smF_cB {v : Nat → Int32} {P : Nat → Bool} : ∀ (n e k : Nat), (∀ j, e ≤ j → j < e + n → v j = if P j then 1 else 0) → smF v n e (nI k) = nI (k + cB P n e)
  | 0, e, k, _ => by rw [smF, cB, Nat.add_zero]
  | n + 1, e, k, h => by
    rw [smF, cB, h e (Nat.le_refl _) (by omega)]
    cases P e with
    | false =>
      rw [if_neg (by decide), if_neg (by decide), Int32.add_zero, Nat.zero_add]
      exact smF_cB n (e + 1) k (fun j j1 j2 => h j (by omega) (by omega))
    | true =>
      rw [if_pos rfl, if_pos rfl, nI_1, ← Nat.add_assoc]
      exact smF_cB n (e + 1) (k + 1) (fun j j1 j2 => h j (by omega) (by omega))
theorem cnF_cB {Q : Nat → Prop} {P : Nat → Bool} : ∀ (n e k : Nat), (∀ j, e ≤ j → j < e + n → (Q j ↔ P j = true)) → cnF Q n e (nI k) = nI (k + cB P n e)
  | 0, e, k, _ => by rw [cnF, cB, Nat.add_zero]
  | n + 1, e, k, h => by
    rw [cnF, cB]
    have h0 := h e (Nat.le_refl _) (by omega)
    cases hP : P e with
    | false =>
      rw [if_neg (fun z => by rw [h0.mp z] at hP; cases hP), if_neg (by decide), Nat.zero_add]
      exact cnF_cB n (e + 1) k (fun j j1 j2 => h j (by omega) (by omega))
    | true =>
      rw [if_pos (h0.mpr hP), if_pos rfl, nI_1, ← Nat.add_assoc]
      exact cnF_cB n (e + 1) (k + 1) (fun j j1 j2 => h j (by omega) (by omega))
theorem cl_shared_L (ht : TbC (x + 35) g A S ga gd N) (hr : RsC (E s) S ga N R) (hs : s ≤ 1) : ∀ (f e : Nat) (z y : Int32), e ≤ R → R - e < f → f_EL_sharedClasses_L6 f (x + 4 + 5 * s) z y (nI e) (cb g x l p n u c A s d E) = some (nI (cB (bt (shF (fun e => S.2 9 (S.2 20 e).toNatClampNeg) (R - e) e z y)) 32 0), (cb g x l p n u c A s d E)) := by
  have hR := hr.1.1
  have hN := ht.1.1
  intro f
  induction f with
  | zero => intro e z y _ hf; omega
  | succ f ih =>
    intro e z y he hf
    simp only [f_EL_sharedClasses_L6, cb_q4 hs, Option.bind_some, hr.2.1]
    by_cases hlt : e < R
    · obtain ⟨a, a1, a2, a3, a4, a5, a6⟩ := cl_entry (l := l) (p := p) (n := n) (u := u) (c := c) (d := d) ht hr hs hlt
      rw [if_neg (nI_ge hlt (by omega)), show R - e = (R - (e + 1)) + 1 by omega, shF]
      simp only [cb_q0 hs, a3, a6, Option.bind_some, nI_1]
      rw [ih (e + 1) _ _ (by omega) (by omega), a2, nI_clamp (by omega)]
    · have : e = R := by omega
      subst this
      rw [if_pos (nI_le (Nat.le_refl _) (by omega)), Nat.sub_self, cl_bitCount]
      rfl
theorem cl_shared (ht : TbC (x + 35) g A S ga gd N) (hr : RsC (E s) S ga N R) (hs : s ≤ 1) : f_EL_sharedClasses (cb g x l p n u c A s d E) (x + 4 + 5 * s) = some (cnF (fun c => 1 < smF (bitE S (nI c)) R 0 0) 32 0 0, (cb g x l p n u c A s d E)) := by
  have hR := hr.1.1
  have h1 := cl_shared_L (l := l) (p := p) (n := n) (u := u) (c := c) (d := d) ht hr hs FU 0 0 0 (Nat.zero_le _) (FU_big (by omega))
  have h2 : cnF (fun c => 1 < smF (bitE S (nI c)) R 0 0) 32 0 (nI 0) = nI (0 + cB (bt (shF (fun e => S.2 9 (S.2 20 e).toNatClampNeg) R 0 0 0)) 32 0) := by
    refine cnF_cB 32 0 0 fun j _ hj => ?_
    have hs1 := smF_cB (v := bitE S (nI j)) (P := fun e => bt (S.2 9 (S.2 20 e).toNatClampNeg) j) R 0 0 (fun e _ _ => by unfold bitE; exact bt_bit (by omega))
    rw [Nat.zero_add] at hs1
    have hle := cB_le (fun e => bt (S.2 9 (S.2 20 e).toNatClampNeg) j) R 0
    have hs2 := shF_bt (fun e => S.2 9 (S.2 20 e).toNatClampNeg) j R 0 0 0 0 (bt_0 j) (bt_0 j)
    rw [Nat.zero_add] at hs2
    rw [hs2, decide_eq_true_iff]
    show 1 < smF (bitE S (nI j)) R 0 (nI 0) ↔ _
    rw [hs1]
    constructor
    · intro z
      exact (nI_ltI (a := 1) (by omega) (by omega)).mp z
    · intro z
      exact nI_lt (a := 1) z (by omega)
  rw [Nat.zero_add] at h2
  show f_EL_sharedClasses_L6 FU (x + 4 + 5 * s) 0 0 (nI 0) (cb g x l p n u c A s d E) = some (cnF (fun c => 1 < smF (bitE S (nI c)) R 0 0) 32 0 (nI 0), (cb g x l p n u c A s d E))
  rw [h1, h2, Nat.sub_zero]
end FND
section CALL3
variable {x : Nat} {h : hp_H}
theorem ok_find (hI : Inv x h) (v w : Int32) : CallOk x (fun h x => f_LL_find h x v w) (fun h x => f_MD_find h x v w) h := by
  obtain ⟨g, c, A, s, d, E, S, ga, gd, N, R, len, rfl, geo, hm, hl, ht, hr⟩ := hI
  have hs := geo.2.1
  have key := fun h => md_find h (x + 14) ht.1.1 hr.1 v w
  by_cases c1 : v < 0
  · exact ok_mk (r := -1) (S' := S) (by simp only [f_LL_find]; rw [if_pos c1]) hm (by rw [key, if_pos c1]) geo rfl hl ht hr
  · by_cases c2 : w < 0
    · exact ok_mk (r := -1) (S' := S) (by simp only [f_LL_find, f_LL_isClass]; rw [if_neg c1, if_pos c2, Option.bind_some, if_pos rfl]) hm (by rw [key, if_neg c1, if_pos c2]) geo rfl hl ht hr
    · by_cases c3 : w ≤ 31
      · obtain ⟨k, k1, k2⟩ := nI_of2 (M := 31) (n := 31) (by decide) c2 c3
        subst k2
        have c4 : ¬ (32 : Int32) ≤ nI k := nI_ge (b := 32) (by omega) (by decide)
        have hg := cl_giver_L (l := nI len) (p := 0) (n := nI N) (u := S.1 17) (c := c) (d := d) ht hr hs v (k := k) (by omega) FU 0 none (Nat.zero_le _) (FU_big (by have := hr.1.1; omega)) (fun y q => by cases q)
        rw [Nat.sub_zero] at hg
        refine ok_mk (r := enc (pkF (fun e => ¬ S.2 21 e < v ∧ bitE S (nI k) e ≠ 0) (fun x y => S.2 21 y < S.2 21 x) R 0 none)) (S' := S) ?_ hm (by rw [key, if_neg c1, if_neg c2, if_pos c3]) geo rfl hl ht hr
        simp only [f_LL_find, f_LL_isClass]
        rw [if_neg c1, if_neg c2, if_neg c4, Option.bind_some, if_neg (show ¬ (1 : Int32) = 0 by decide)]
        simp only [cb_r3, cb_o2 hs, Option.bind_some]
        have hg' : f_EL_deepestGiver (cb g x (nI len) 0 (nI N) (S.1 17) c A s d E) (x + 4 + 5 * s) v (nI k) = some (enc (pkF (fun e => ¬ S.2 21 e < v ∧ bitE S (nI k) e ≠ 0) (fun x y => S.2 21 y < S.2 21 x) R 0 none), cb g x (nI len) 0 (nI N) (S.1 17) c A s d E) := hg
        rw [hg', Option.bind_some]
        by_cases c5 : enc (pkF (fun e => ¬ S.2 21 e < v ∧ bitE S (nI k) e ≠ 0) (fun x y => S.2 21 y < S.2 21 x) R 0 none) = -1
        · rw [if_pos c5, c5]
        · rw [if_neg c5]
      · refine ok_mk (r := -1) (S' := S) ?_ hm (by rw [key, if_neg c1, if_neg c2, if_neg c3]) geo rfl hl ht hr
        have c4 : (32 : Int32) ≤ w := by
          obtain ⟨k, k1, rfl⟩ := nI_of c2
          have : ¬ k ≤ 31 := fun z => c3 (nI_le (b := 31) z (by decide))
          exact nI_le (a := 32) (by omega) k1
        simp only [f_LL_find, f_LL_isClass]
        rw [if_neg c1, if_neg c2, if_pos c4, Option.bind_some, if_pos rfl]
theorem ok_count (hI : Inv x h) (v : Int32) : CallOk x (fun h x => f_LL_count h x v) (fun h x => f_MD_count h x v) h := by
  obtain ⟨g, c, A, s, d, E, S, ga, gd, N, R, len, rfl, geo, hm, hl, ht, hr⟩ := hI
  have hs := geo.2.1
  obtain ⟨k0, k1, k2, k3, k4, k5, k6⟩ := md_count (cb g x (nI len) 0 (nI N) (S.1 17) c A s d E) (x + 14) (len := len) ht.1.1 hr.1 ht.1.2.1 v
  have hR := hr.1.1
  have hN := ht.1.1
  by_cases c0 : v = 0
  · refine ok_mk (r := nI N) (S' := S) ?_ hm (k0 c0) geo rfl hl ht hr
    simp only [f_LL_count, cb_r2, Option.bind_some]
    rw [if_pos c0]
  by_cases c1 : v = 1
  · refine ok_mk (r := cnF (fun i => S.2 8 i ≠ 0) N 0 0) (S' := S) ?_ hm (k1 c1) geo rfl hl ht hr
    have h1 := cl_retired_L (l := nI len) (p := 0) (u := S.1 17) (c := c) (s := s) (d := d) (E := E) ht FU 0 0 (Nat.zero_le _) (FU_big (by omega))
    rw [Nat.sub_zero] at h1
    have h2 : f_LL_retiredArtifacts (cb g x (nI len) 0 (nI N) (S.1 17) c A s d E) x = some (cnF (fun i => S.2 8 i ≠ 0) N 0 0, cb g x (nI len) 0 (nI N) (S.1 17) c A s d E) := h1
    simp only [f_LL_count, cb_o0, Option.bind_some, h2]
    rw [if_neg c0, if_pos c1]
  by_cases c2 : v = 2
  · refine ok_mk (r := S.1 0) (S' := S) ?_ hm (k2 c2) geo rfl hl ht hr
    simp only [f_LL_count, cb_r0, cb_l1, Option.bind_some]
    rw [if_neg c0, if_neg c1, if_pos c2, hl.2.1]
  by_cases c3 : v = 3
  · refine ok_mk (r := nI R) (S' := S) ?_ hm (k3 c3) geo rfl hl ht hr
    simp only [f_LL_count, cb_r3, cb_q4 hs, Option.bind_some, hr.2.1]
    rw [if_neg c0, if_neg c1, if_neg c2, if_pos c3]
  by_cases c4 : v = 4
  · refine ok_mk (r := gmF (S.2 21) R 0 0) (S' := S) ?_ hm (k4 c4) geo rfl hl ht hr
    have h1 := cl_greatest_L (l := nI len) (p := 0) (n := nI N) (u := S.1 17) (c := c) (d := d) ht hr hs FU 0 0 (Nat.zero_le _) (FU_big (by omega))
    rw [Nat.sub_zero] at h1
    have h2 : f_EL_greatestDepth (cb g x (nI len) 0 (nI N) (S.1 17) c A s d E) (x + 4 + 5 * s) = some (gmF (S.2 21) R 0 0, cb g x (nI len) 0 (nI N) (S.1 17) c A s d E) := h1
    simp only [f_LL_count, cb_r3, cb_o2 hs, Option.bind_some, h2]
    rw [if_neg c0, if_neg c1, if_neg c2, if_neg c3, if_pos c4]
  by_cases c5 : v = 5
  · refine ok_mk (r := cnF (fun c => 1 < smF (bitE S (nI c)) R 0 0) 32 0 0) (S' := S) ?_ hm (k5 c5) geo rfl hl ht hr
    simp only [f_LL_count, cb_r3, cb_o2 hs, Option.bind_some, cl_shared ht hr hs]
    rw [if_neg c0, if_neg c1, if_neg c2, if_neg c3, if_neg c4, if_pos c5]
  · refine ok_mk (r := -1) (S' := S) ?_ hm (k6 ⟨c0, c1, c2, c3, c4, c5⟩) geo rfl hl ht hr
    simp only [f_LL_count]
    rw [if_neg c0, if_neg c1, if_neg c2, if_neg c3, if_neg c4, if_neg c5]
end CALL3
