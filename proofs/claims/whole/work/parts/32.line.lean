/-! ===== the class's reading of the line ===== -/
theorem cl_isLetter (h : hp_H) (v : Int32) : f_LL_isLetter h v = some (zi (Lr v), h) := by
  unfold f_LL_isLetter
  by_cases c1 : v < 97
  · rw [if_pos c1, zi_0 (fun z => z.1 c1)]
  · rw [if_neg c1]
    by_cases c2 : 122 < v
    · rw [if_pos c2, zi_0 (fun z => z.2 c2)]
    · rw [if_neg c2, zi_1 ⟨c1, c2⟩]
theorem cl_isDigit (h : hp_H) (v : Int32) : f_LL_isDigit h v = some (zi (Dg v), h) := by
  unfold f_LL_isDigit
  by_cases c1 : v < 48
  · rw [if_pos c1, zi_0 (fun z => z.1 c1)]
  · rw [if_neg c1]
    by_cases c2 : 57 < v
    · rw [if_pos c2, zi_0 (fun z => z.2 c2)]
    · rw [if_neg c2, zi_1 ⟨c1, c2⟩]
theorem cl_isSeparator (h : hp_H) (v : Int32) : f_LL_isSeparator h v = some (zi (Mk v), h) := by
  unfold f_LL_isSeparator
  by_cases c1 : v = 46
  · rw [if_pos c1, zi_1 (Or.inl c1)]
  · rw [if_neg c1]
    by_cases c2 : v = 45
    · rw [if_pos c2, zi_1 (Or.inr c2)]
    · rw [if_neg c2, zi_0 (fun z => z.elim c1 c2)]
theorem cl_isOfVersion (h : hp_H) (v : Int32) : f_LN_isOfVersion h v = some (zi (VC v), h) := by
  unfold f_LN_isOfVersion
  simp only [cl_isDigit, cl_isLetter, cl_isSeparator, Option.bind_some, zi_eq0]
  by_cases c1 : Dg v
  · rw [if_neg (fun z => z c1), zi_1 (Or.inl c1)]
  · rw [if_pos c1]
    by_cases c2 : Lr v
    · rw [if_neg (fun z => z c2), zi_1 (Or.inr (Or.inl c2))]
    · rw [if_pos c2]
      by_cases c3 : Mk v
      · rw [if_neg (fun z => z c3), zi_1 (Or.inr (Or.inr c3))]
      · rw [if_pos c3, zi_0 (fun z => z.elim c1 (fun z => z.elim c2 c3))]
/-- how far P holds from k on, within n -/
noncomputable def rnn (P : Nat → Prop) : Nat → Nat → Nat
  | 0, k => k
  | n + 1, k => @ite Nat (P k) (Classical.propDecidable _) (rnn P n (k + 1)) k
theorem rnn_spec (P : Nat → Prop) : ∀ (n k : Nat), k ≤ rnn P n k ∧ rnn P n k ≤ k + n ∧ (∀ j, k ≤ j → j < rnn P n k → P j) ∧ (rnn P n k < k + n → ¬ P (rnn P n k))
  | 0, k => ⟨Nat.le_refl _, Nat.le_refl _, fun j h1 h2 => absurd h2 (by simp only [rnn]; omega), fun h => absurd h (by simp only [rnn]; omega)⟩
  | n + 1, k => by
    rw [rnn]
    by_cases hP : P k
    · rw [if_pos hP]
      obtain ⟨h1, h2, h3, h4⟩ := rnn_spec P n (k + 1)
      refine ⟨by omega, by omega, fun j j1 j2 => ?_, fun q => h4 (by omega)⟩
      rcases Nat.eq_or_lt_of_le j1 with hj | hj
      · rw [← hj]; exact hP
      · exact h3 j hj j2
    · rw [if_neg hP]
      exact ⟨Nat.le_refl _, by omega, fun j h1 h2 => by omega, fun _ => hP⟩
/-- the number of a name, as it is read -/
def nmv (c : Nat → Int32) : Nat → Nat → Int64 → Int64
  | 0, _, a => a
  | n + 1, k, a => nmv c n (k + 1) (a * 27 + (c k - 97 + 1).toInt64)
section CLN
variable {g : hp_H} {x : Nat} {l p n u : Int32} {c : Nat → Int32} {A : Nat → Option Nat} {s d : Nat} {E : Nat → ES}
theorem cl_name_L {e : Nat} (he : e ≤ 40) : ∀ (f k : Nat) (y : Int64), k ≤ e → e - k < f → f_LN_takeName_L17 f (x + 1) y (nI e) (cb g x l (nI k) n u c A s d E) = some (nmv c (rnn (fun k => Lr (c k)) (e - k) k - k) k y, (cb g x l (nI (rnn (fun k => Lr (c k)) (e - k) k)) n u c A s d E)) := by
  intro f
  induction f with
  | zero => intro k y _ hf; omega
  | succ f ih =>
    intro k y hk hf
    simp only [f_LN_takeName_L17, cb_l2, Option.bind_some]
    by_cases hlt : k < e
    · rw [if_neg (nI_ge hlt (by omega)), show e - k = (e - (k + 1)) + 1 by omega, rnn]
      simp only [cb_l0, cb_l2, cb_la, hp_ix_nI (show k < 40 by omega) (by decide), Option.map_some, Option.bind_some, cl_isLetter, zi_eq0, f_LL_letterNumber, cb_v2, nI_1]
      by_cases hP : Lr (c k)
      · rw [if_neg (fun z => z hP), if_pos hP]
        obtain ⟨r1, -⟩ := rnn_spec (fun k => Lr (c k)) (e - (k + 1)) (k + 1)
        rw [ih (k + 1) _ (by omega) (by omega), show rnn (fun k => Lr (c k)) (e - (k + 1)) (k + 1) - k = (rnn (fun k => Lr (c k)) (e - (k + 1)) (k + 1) - (k + 1)) + 1 by omega, nmv]
      · rw [if_pos hP, if_neg hP, Nat.sub_self, nmv]
    · have : k = e := by omega
      subst this
      rw [if_pos (nI_le (Nat.le_refl _) (by omega)), Nat.sub_self, rnn, Nat.sub_self, nmv]
theorem cl_takeName {len : Nat} (hl : len ≤ 40) : f_LN_takeName (cb g x (nI len) 0 n u c A s d E) (x + 1) = some (nmv c (rnn (fun k => Lr (c k)) (min len 8) 0) 0 0, (cb g x (nI len) (nI (rnn (fun k => Lr (c k)) (min len 8) 0)) n u c A s d E)) := by
  unfold f_LN_takeName f_JM_min
  simp only [cb_l1, cb_l2, Option.bind_some]
  have key : (if (0 : Int32) + 8 < nI len then some ((0 : Int32) + 8, (cb g x (nI len) 0 n u c A s d E)) else some (nI len, (cb g x (nI len) 0 n u c A s d E))) = some (nI (min len 8), (cb g x (nI len) 0 n u c A s d E)) := by
    by_cases h8 : 8 < len
    · rw [if_pos (show (0 : Int32) + 8 < nI len from nI_lt (a := 8) h8 (by omega)), show min len 8 = 8 by omega]
      rfl
    · rw [if_neg (show ¬ (0 : Int32) + 8 < nI len from nI_nlt (b := len) (a := 8) (by omega) (by omega) ∘ fun z => z), show min len 8 = len by omega]
  rw [key, Option.bind_some]
  have := cl_name_L (g := g) (x := x) (l := nI len) (n := n) (u := u) (c := c) (A := A) (s := s) (d := d) (E := E) (e := min len 8) (by omega) FU 0 0 (Nat.zero_le _) (FU_big (by omega))
  exact this
theorem cl_stands {k len : Nat} (ch : Int32) (hl : len ≤ 40) (hk : k ≤ len) : f_LN_standsAt (cb g x (nI len) (nI k) n u c A s d E) (x + 1) ch = some (zi (k < len ∧ c k = ch), (cb g x (nI len) (nI k) n u c A s d E)) := by
  unfold f_LN_standsAt
  simp only [cb_l1, cb_l2, cb_l0, cb_la, Option.bind_some]
  by_cases h1 : k < len
  · rw [if_neg (nI_ge h1 (by omega)), hp_ix_nI (show k < 40 by omega) (by decide)]
    simp only [Option.map_some, Option.bind_some]
    by_cases h2 : c k = ch
    · rw [if_pos h2, zi_1 ⟨h1, h2⟩]
    · rw [if_neg h2, zi_0 (fun z => h2 z.2)]
  · rw [if_pos (nI_le (by omega) (by omega)), zi_0 (fun z => h1 z.1)]
theorem cl_take_1 {k len : Nat} {ch : Int32} (hl : len ≤ 40) (hk : k < len) (hc : c k = ch) : f_LN_take (cb g x (nI len) (nI k) n u c A s d E) (x + 1) ch = some (1, (cb g x (nI len) (nI (k + 1)) n u c A s d E)) := by
  unfold f_LN_take
  simp only [cb_o1, cl_stands ch hl (Nat.le_of_lt hk), Option.bind_some, zi_eq0, cb_l2, cb_v2, nI_1]
  rw [if_neg (fun z => z ⟨hk, hc⟩)]
theorem cl_take_0 {k len : Nat} {ch : Int32} (hl : len ≤ 40) (hk : k ≤ len) (hc : ¬ (k < len ∧ c k = ch)) : f_LN_take (cb g x (nI len) (nI k) n u c A s d E) (x + 1) ch = some (0, (cb g x (nI len) (nI k) n u c A s d E)) := by
  unfold f_LN_take
  simp only [cb_o1, cl_stands ch hl hk, Option.bind_some, zi_eq0]
  rw [if_pos hc]
theorem cl_finish {b len : Nat} (hl : len ≤ 40) (hb : b ≤ len) : f_LN_finishReading (cb g x (nI len) (nI b) n u c A s d E) (x + 1) = some (zi (b = len), (cb g x 0 0 n u c A s d E)) := by
  unfold f_LN_finishReading f_LN_clear
  simp only [cb_l1, cb_l2, cb_o1, Option.bind_some, cb_v1, cb_v2]
  by_cases h1 : b = len
  · rw [if_pos (by rw [h1]), zi_1 h1]
  · rw [if_neg (fun z => h1 ((nI_eq (by omega) (by omega)).mp z)), zi_0 h1]
theorem lr_n58 {v : Int32} (h : Lr v) : v ≠ 58 := by
  intro e; subst e; exact absurd h (by decide)
/-- a name and a colon at the line's start -/
theorem cl_nameColon {len : Nat} (hl : len ≤ 40) :
    ((NmP c 0 (fx c 58 0 len) ∧ fx c 58 0 len ≠ len) → fx c 58 0 len + 1 ≤ len ∧ f_LN_takeNameAndColon (cb g x (nI len) 0 n u c A s d E) (x + 1) = some (nmv c (fx c 58 0 len) 0 0, (cb g x (nI len) (nI (fx c 58 0 len + 1)) n u c A s d E))) ∧
    (¬ (NmP c 0 (fx c 58 0 len) ∧ fx c 58 0 len ≠ len) → ∃ b, b ≤ len ∧ f_LN_takeNameAndColon (cb g x (nI len) 0 n u c A s d E) (x + 1) = some (0, (cb g x (nI len) (nI b) n u c A s d E))) := by
  obtain ⟨r1, r2, r3, r4⟩ := rnn_spec (fun k => Lr (c k)) (min len 8) 0
  obtain ⟨q1, q2, q3, q4⟩ := fx_spec c 58 len 0
  have key : f_LN_takeNameAndColon (cb g x (nI len) 0 n u c A s d E) (x + 1) = (f_LN_take (cb g x (nI len) (nI (rnn (fun k => Lr (c k)) (min len 8) 0)) n u c A s d E) (x + 1) 58).bind fun q5 => if q5.1 = 0 then some (0, q5.2) else some (nmv c (rnn (fun k => Lr (c k)) (min len 8) 0) 0 0, q5.2) := by
    unfold f_LN_takeNameAndColon
    simp only [cb_o1, cl_takeName hl, Option.bind_some]
  generalize rnn (fun k => Lr (c k)) (min len 8) 0 = b at *
  generalize hq : fx c 58 0 len = q at *
  rw [key]
  constructor
  · rintro ⟨⟨m1, m2, m3⟩, hne⟩
    have hqb : q = b := by
      rcases Nat.lt_trichotomy q b with hh | hh | hh
      · exact absurd (q4 (by omega)) (lr_n58 (r3 q q1 hh))
      · exact hh
      · exact absurd (m3 b (by omega) hh) (r4 (by omega))
    subst hqb
    refine ⟨by omega, ?_⟩
    rw [cl_take_1 hl (by omega) (q4 (by omega)), Option.bind_some, if_neg (show ¬ (1 : Int32) = 0 by decide)]
  · intro hno
    by_cases hc : b < len ∧ c b = 58
    · have hqb : q = b := by
        rw [← hq]
        exact fx_eq (Nat.zero_le _) (by omega) (fun k _ k2 => lr_n58 (r3 k (Nat.zero_le _) k2)) (fun _ => hc.2)
      subst hqb
      have hb0 : q = 0 := by
        rcases Nat.eq_zero_or_pos q with z | z
        · exact z
        · exact absurd ⟨⟨z, by omega, fun k k1 k2 => r3 k k1 k2⟩, by omega⟩ hno
      refine ⟨q + 1, by omega, ?_⟩
      rw [cl_take_1 hl hc.1 hc.2, Option.bind_some, if_neg (show ¬ (1 : Int32) = 0 by decide), hb0, nmv]
    · refine ⟨b, by omega, ?_⟩
      rw [cl_take_0 hl (by omega) hc, Option.bind_some, if_pos rfl]
/-- a name that is to be the whole line -/
theorem cl_nameAll {len : Nat} (hl : len ≤ 40) :
    (NmP c 0 len → f_LN_takeName (cb g x (nI len) 0 n u c A s d E) (x + 1) = some (nmv c len 0 0, (cb g x (nI len) (nI len) n u c A s d E))) ∧
    (¬ NmP c 0 len → ∃ v b, b ≤ len ∧ f_LN_takeName (cb g x (nI len) 0 n u c A s d E) (x + 1) = some (v, (cb g x (nI len) (nI b) n u c A s d E)) ∧ (v = 0 ∨ b ≠ len)) := by
  obtain ⟨r1, r2, r3, r4⟩ := rnn_spec (fun k => Lr (c k)) (min len 8) 0
  rw [cl_takeName hl]
  generalize rnn (fun k => Lr (c k)) (min len 8) 0 = b at *
  constructor
  · rintro ⟨m1, m2, m3⟩
    have hb : b = len := by
      rcases Nat.lt_or_ge b len with z | z
      · exact absurd (m3 b (Nat.zero_le _) z) (r4 (by omega))
      · omega
    rw [hb]
  · intro hno
    refine ⟨_, b, by omega, rfl, ?_⟩
    rcases Nat.eq_zero_or_pos b with z | z
    · left; rw [z, nmv]
    · right; intro hb
      subst hb
      exact hno ⟨z, by omega, r3⟩
/-! a version's text -/
theorem cl_isVersion_L {a b len : Nat} (hl : len ≤ 40) (hb : b ≤ len) (hab : a < b) (h12 : b ≤ a + 12) (hd : Dg (c a)) (hV : ∀ j, a ≤ j → j < b → VC (c j)) : ∀ (f k : Nat), a ≤ k → k ≤ b → b - k < f → (∀ j, a ≤ j → j + 1 < k → Mk (c j) → ¬ Mk (c (j + 1))) → f_LN_isVersion_L32 f (x + 1) (nI b) (zi (a < k ∧ Mk (c (k - 1)))) (nI k) (cb g x l p n u c A s d E) = some (zi (VrP c a b), (cb g x l p n u c A s d E)) := by
  intro f
  induction f with
  | zero => intro k _ _ hf; omega
  | succ f ih =>
    intro k hk1 hk2 hf hM
    simp only [f_LN_isVersion_L32]
    by_cases hlt : k < b
    · rw [if_neg (nI_ge hlt (by omega))]
      simp only [cb_l0, cb_la, hp_ix_nI (show k < 40 by omega) (by decide), Option.map_some, Option.bind_some, cl_isSeparator, zi_eq0, nI_1]
      have go : ¬ (Mk (c k) ∧ a < k ∧ Mk (c (k - 1))) → f_LN_isVersion_L32 f (x + 1) (nI b) (zi (Mk (c k))) (nI (k + 1)) (cb g x l p n u c A s d E) = some (zi (VrP c a b), (cb g x l p n u c A s d E)) := by
        intro hno
        have := ih (k + 1) (by omega) (by omega) (by omega) (fun j j1 j2 j3 j4 => ?_)
        · rw [zi_congr (show (a < k + 1 ∧ Mk (c (k + 1 - 1))) ↔ Mk (c k) from ⟨fun z => z.2, fun z => ⟨by omega, z⟩⟩)] at this
          exact this
        · by_cases hjk : j + 1 = k
          · refine hno ⟨hjk ▸ j4, by omega, ?_⟩
            rw [← hjk, Nat.add_sub_cancel]; exact j3
          · exact hM j j1 (by omega) j3 j4
      by_cases c1 : Mk (c k)
      · rw [if_neg (fun z => z c1)]
        by_cases c2 : a < k ∧ Mk (c (k - 1))
        · rw [if_neg (fun z => z c2), zi_0]
          rintro ⟨_, _, _, hz⟩
          have := (hz (k - 1) (by omega) (by omega)).2 c2.2
          rw [show k - 1 + 1 = k by omega] at this
          exact this.2 c1
        · rw [if_pos c2]
          exact go (fun z => c2 z.2)
      · rw [if_pos c1]
        exact go (fun z => c1 z.1)
    · have hkb : k = b := by omega
      subst hkb
      rw [if_pos (nI_le (Nat.le_refl _) (by omega))]
      simp only [zi_eq0]
      by_cases c2 : a < k ∧ Mk (c (k - 1))
      · rw [if_neg (fun z => z c2), zi_0]
        rintro ⟨_, _, _, hz⟩
        have := ((hz (k - 1) (by omega) (by omega)).2 c2.2).1
        omega
      · rw [if_pos c2, zi_1]
        refine ⟨hab, h12, hd, fun j j1 j2 => ⟨hV j j1 j2, fun j3 => ?_⟩⟩
        have hj : j + 1 < k := by
          rcases Nat.lt_or_ge (j + 1) k with z | z
          · exact z
          · refine absurd ⟨hab, ?_⟩ c2
            rw [show k - 1 = j by omega]; exact j3
        exact ⟨hj, hM j j1 hj j3⟩
theorem cl_isVersion {a b len : Nat} (hl : len ≤ 40) (hb : b ≤ len) (hab : a ≤ b) (hV : ∀ j, a ≤ j → j < b → VC (c j)) : f_LN_isVersion (cb g x l p n u c A s d E) (x + 1) (nI a) (nI b) = some (zi (VrP c a b), (cb g x l p n u c A s d E)) := by
  unfold f_LN_isVersion
  by_cases h1 : a = b
  · rw [if_pos (by rw [h1]), zi_0 (fun z => by have := z.1; omega)]
  · rw [if_neg (fun z => h1 ((nI_eq (by omega) (by omega)).mp z))]
    have e : nI b - nI a = nI (b - a) := by
      have := nI_add (b - a) a
      rw [show b - a + a = b by omega] at this
      rw [← this, Int32.add_sub_cancel]
    rw [e]
    by_cases h2 : b ≤ a + 12
    · rw [if_neg (show ¬ (12 : Int32) < nI (b - a) from nI_nlt (a := 12) (by omega) (by omega))]
      simp only [cb_l0, cb_la, hp_ix_nI (show a < 40 by omega) (by decide), Option.map_some, Option.bind_some, cl_isDigit, zi_eq0]
      by_cases h3 : Dg (c a)
      · rw [if_neg (fun z => z h3)]
        have := cl_isVersion_L (g := g) (x := x) (l := l) (p := p) (n := n) (u := u) (A := A) (s := s) (d := d) (E := E) hl hb (by omega) h2 h3 hV FU a (Nat.le_refl _) hab (FU_big (by omega)) (fun j j1 j2 => by omega)
        rw [zi_0 (fun z => absurd z.1 (Nat.lt_irrefl _))] at this
        exact this
      · rw [if_pos h3, zi_0 (fun z => h3 z.2.2.1)]
    · rw [if_pos (show (12 : Int32) < nI (b - a) from nI_lt (a := 12) (by omega) (by omega)), zi_0 (fun z => by have := z.2.1; omega)]
theorem cl_version_L {a len : Nat} (hl : len ≤ 40) : ∀ (f k : Nat), k ≤ len → len - k < f → f_LN_takeVersion_L5 f (x + 1) (nI a) (cb g x (nI len) (nI k) n u c A s d E) = f_LN_takeVersion_L44 (x + 1) (nI a) (cb g x (nI len) (nI (rnn (fun k => VC (c k)) (len - k) k)) n u c A s d E) := by
  intro f
  induction f with
  | zero => intro k _ hf; omega
  | succ f ih =>
    intro k hk hf
    simp only [f_LN_takeVersion_L5, cb_l2, cb_l1, Option.bind_some]
    by_cases hlt : k < len
    · rw [if_neg (nI_ge hlt (by omega)), show len - k = (len - (k + 1)) + 1 by omega, rnn]
      simp only [cb_l0, cb_l2, cb_la, hp_ix_nI (show k < 40 by omega) (by decide), Option.map_some, Option.bind_some, cl_isOfVersion, zi_eq0, cb_v2, nI_1]
      by_cases hP : VC (c k)
      · rw [if_neg (fun z => z hP), if_pos hP]
        exact ih (k + 1) (by omega) (by omega)
      · rw [if_pos hP, if_neg hP]
    · have : k = len := by omega
      subst this
      rw [if_pos (nI_le (Nat.le_refl _) (by omega)), Nat.sub_self, rnn]
end CLN
