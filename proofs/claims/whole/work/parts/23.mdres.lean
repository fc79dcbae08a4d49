/-! ===== resolving, in words of both sides: W = (how many entries; artifact, depth, parent, dependency of each) ===== -/
abbrev WS : Type := Nat × (Nat → Nat) × (Nat → Nat) × (Nat → Nat) × (Nat → Nat)
def wadd (W : WS) (a d p D : Nat) : WS := (W.1 + 1, va_up W.2.1 W.1 a, va_up W.2.2.1 W.1 d, va_up W.2.2.2.1 W.1 p, va_up W.2.2.2.2 W.1 D)
/-- exclusion E is the name c 0 .. b -/
def ExcE (S : MS) (c : Nat → Int32) (b E : Nat) : Prop := S.2 15 E = nI b ∧ ∀ k, k < b → S.2 16 (E * 8 + k) = c k
/-- dependency D excludes the name c 0 .. b -/
def ExcD (S : MS) (c : Nat → Int32) (b D : Nat) : Prop := ∃ e, e < (S.2 14 D).toNatClampNeg ∧ ExcE S c b (D * 3 + e)
/-- the name is barred at entry e -/
def brd (S : MS) (c : Nat → Int32) (b : Nat) (W : WS) : Nat → Nat → Prop
  | 0, _ => False
  | f + 1, e => e ≠ 0 ∧ (ExcD S c b (W.2.2.2.2 e) ∨ brd S c b W f (W.2.2.2.1 e))
section MDX
variable (h : hp_H) (m : Nat)
theorem md_exd_38 {S : MS} {E b : Nat} (hE : E < 360) (hb : b ≤ 8) (k4 : Nat → Int32 → Int32 → Int32 → hp_H → Option (Int32 × hp_H)) (y1 : Int32) : ∀ (f k : Nat) (y4 : Int32), k ≤ b → b - k < f → (y4 = 0 ∨ y4 = 1) → f_MD_excluded_L38 k4 f m y1 (nI b) (nI E) y4 (nI k) (md_set h m S) = (@ite _ (y4 = 1 ∧ ∀ j, k ≤ j → j < b → S.2 16 (E * 8 + j) = S.2 3 j) (Classical.propDecidable _) (some (1, md_set h m S)) (k4 m y1 (nI b) (nI E + 1) (md_set h m S))) := by
  intro f
  induction f with
  | zero => intro k y4 _ hn; omega
  | succ f ih =>
    intro k y4 hk hn hy
    simp only [f_MD_excluded_L38]
    by_cases hlt : k < b
    · rw [if_neg (nI_ge hlt (by omega))]
      rcases hy with rfl | rfl
      · rw [if_pos rfl, if_pos rfl, if_neg (fun z => absurd z.1 (by decide))]
      · rw [if_neg (show ¬ (1 : Int32) = 0 by decide), show nI E * 8 + nI k = nI (E * 8 + k) by rw [show (8 : Int32) = nI 8 from rfl, pk_mul, nI_add]]
        simp only [md_r16, md_a16, md_r3, md_a3, Option.bind_some, hp_ix_nI (show k < 40 by omega) (by decide), hp_ix_nI (show E * 8 + k < 2880 by omega) (by decide), Option.map_some]
        rw [nI_1]
        by_cases hc : S.2 16 (E * 8 + k) = S.2 3 k
        · rw [if_pos hc, ih (k + 1) 1 (by omega) (by omega) (Or.inr rfl)]
          by_cases ha : ∀ j, k + 1 ≤ j → j < b → S.2 16 (E * 8 + j) = S.2 3 j
          · rw [if_pos ⟨rfl, ha⟩, if_pos ⟨rfl, fun j j1 j2 => by
              by_cases hjk : j = k
              · subst hjk; exact hc
              · exact ha j (by omega) j2⟩]
          · rw [if_neg (fun z => ha z.2), if_neg (fun z => ha (fun j j1 j2 => z.2 j (by omega) j2))]
        · rw [if_neg hc, ih (k + 1) 0 (by omega) (by omega) (Or.inl rfl), if_neg (fun z => absurd z.1 (by decide)), if_neg (fun z => hc (z.2 k (Nat.le_refl _) hlt))]
    · have hkN : k = b := by omega
      subst hkN
      rw [if_pos (nI_le (Nat.le_refl _) (by omega))]
      rcases hy with rfl | rfl
      · rw [if_pos rfl, if_neg (fun z => absurd z.1 (by decide))]
      · rw [if_neg (show ¬ (1 : Int32) = 0 by decide), if_pos ⟨rfl, fun j j1 j2 => absurd j2 (by omega)⟩]
theorem md_exd_4 {S : MS} {D b ne : Nat} (hD : D < 120) (hb : b ≤ 8) (hne : ne ≤ 3) (h14 : S.2 14 D = nI ne) : ∀ (f e : Nat), e ≤ ne → ne - e < f → f_MD_excluded_L4 f m (nI D) (nI b) (nI (D * 3 + e)) (md_set h m S) = some (zi (∃ x, e ≤ x ∧ x < ne ∧ ExcE S (S.2 3) b (D * 3 + x)), md_set h m S) := by
  intro f
  induction f with
  | zero => intro e _ hn; omega
  | succ f ih =>
    intro e he hn
    simp only [f_MD_excluded_L4, md_r14, md_a14, Option.bind_some, hp_ix_nI hD (by decide), Option.map_some, h14]
    rw [show nI D * 3 + nI ne = nI (D * 3 + ne) by rw [show (3 : Int32) = nI 3 from rfl, pk_mul, nI_add]]
    by_cases hlt : e < ne
    · rw [if_neg (nI_ge (by omega) (by omega))]
      simp only [md_r15, md_a15, Option.bind_some, hp_ix_nI (show D * 3 + e < 360 by omega) (by decide), Option.map_some]
      rw [show (0 : Int32) = nI 0 from rfl]
      have go : ¬ ExcE S (S.2 3) b (D * 3 + e) → f_MD_excluded_L4 f m (nI D) (nI b) (nI (D * 3 + e) + 1) (md_set h m S) = some (zi (∃ x, e ≤ x ∧ x < ne ∧ ExcE S (S.2 3) b (D * 3 + x)), md_set h m S) := by
        intro hno
        rw [nI_1, show D * 3 + e + 1 = D * 3 + (e + 1) by omega, ih (e + 1) (by omega) (by omega)]
        refine congrArg some (Prod.ext (zi_congr ⟨fun ⟨x, x1, x2, x3⟩ => ⟨x, by omega, x2, x3⟩, fun ⟨x, x1, x2, x3⟩ => ⟨x, ?_, x2, x3⟩⟩) rfl)
        by_cases hx : x = e
        · subst hx; exact absurd x3 hno
        · omega
      by_cases h15 : S.2 15 (D * 3 + e) = nI b
      · rw [if_pos h15, md_exd_38 h m (S := S) (E := D * 3 + e) (by omega) hb _ _ FU 0 1 (Nat.zero_le _) (FU_big (by omega)) (Or.inr rfl)]
        by_cases ha : ∀ k, k < b → S.2 16 ((D * 3 + e) * 8 + k) = S.2 3 k
        · rw [if_pos ⟨rfl, fun j _ j2 => ha j j2⟩, zi_1 ⟨e, Nat.le_refl _, hlt, h15, ha⟩]
        · rw [if_neg (fun z => ha (fun k hk => z.2 k (Nat.zero_le _) hk))]
          exact go (fun z => ha z.2)
      · rw [if_neg h15, show nI 0 = (0 : Int32) from rfl, show f_MD_excluded_L38 (f_MD_excluded_L4 f) FU m (nI D) (nI b) (nI (D * 3 + e)) 0 0 (md_set h m S) = _ from md_exd_38 h m (S := S) (E := D * 3 + e) (by omega) hb _ _ FU 0 0 (Nat.zero_le _) (FU_big (by omega)) (Or.inl rfl), if_neg (fun z => absurd z.1 (by decide))]
        exact go (fun z => h15 z.1)
    · have hkN : e = ne := by omega
      subst hkN
      rw [if_pos (nI_le (Nat.le_refl _) (by omega)), zi_0 (fun ⟨x, x1, x2, _⟩ => by omega)]
theorem md_excluded {S : MS} {D b ne : Nat} (hD : D < 120) (hb : b ≤ 8) (hne : ne ≤ 3) (h14 : S.2 14 D = nI ne) : f_MD_excluded (md_set h m S) m (nI D) (nI b) = some (zi (ExcD S (S.2 3) b D), md_set h m S) := by
  unfold f_MD_excluded
  rw [show nI D * 3 = nI (D * 3 + 0) by rw [show (3 : Int32) = nI 3 from rfl, pk_mul, Nat.add_zero], md_exd_4 h m hD hb hne h14 FU 0 (Nat.zero_le _) (FU_big (by omega))]
  refine congrArg some (Prod.ext (zi_congr ?_) rfl)
  unfold ExcD
  rw [h14, nI_clamp (by omega)]
  exact ⟨fun ⟨x, _, x2, x3⟩ => ⟨x, x2, x3⟩, fun ⟨x, x2, x3⟩ => ⟨x, Nat.zero_le _, x2, x3⟩⟩
/-- the working entries stand in the upper half of the reference's arrays -/
def RepW (S : MS) (W : WS) (N : Nat) : Prop := S.1 19 = nI W.1 ∧ W.1 ≤ 20 ∧ (∀ e, e < W.1 → S.2 20 (20 + e) = nI (W.2.1 e) ∧ W.2.1 e < N ∧ S.2 21 (20 + e) = nI (W.2.2.1 e) ∧ W.2.2.1 e ≤ e) ∧ ∀ e, e < W.1 → 0 < e → S.2 22 (20 + e) = nI (20 + W.2.2.2.1 e) ∧ W.2.2.2.1 e < e ∧ S.2 23 (20 + e) = nI (W.2.2.2.2 e) ∧ W.2.2.2.2 e < 120
theorem md_barred_L {S : MS} {W : WS} {N b : Nat} (hW : RepW S W N) (hb : b ≤ 8) (hex : ∀ e, e < W.1 → 0 < e → ∃ ne, ne ≤ 3 ∧ S.2 14 (W.2.2.2.2 e) = nI ne) : ∀ (f e g : Nat), e < W.1 → e < f → e < g → f_MD_barred_L2 f m (nI b) (nI (20 + e)) (md_set h m S) = some (zi (brd S (S.2 3) b W g e), md_set h m S) := by
  intro f
  induction f with
  | zero => intro e g _ hn; omega
  | succ f ih =>
    intro e g he hn hg
    obtain ⟨g', rfl⟩ : ∃ g', g = g' + 1 := ⟨g - 1, by omega⟩
    obtain ⟨w1, w2, w3, w4⟩ := hW
    simp only [f_MD_barred_L2, brd]
    by_cases h0 : e = 0
    · subst h0
      rw [if_pos (show nI (20 + 0) ≤ (20 : Int32) from nI_le (b := 20) (by omega) (by omega)), zi_0 (fun z => z.1 rfl)]
    · rw [if_neg (show ¬ nI (20 + e) ≤ (20 : Int32) from nI_ge (a := 20) (by omega) (by omega))]
      obtain ⟨p1, p2, p3, p4⟩ := w4 e he (by omega)
      obtain ⟨ne, n1, n2⟩ := hex e he (by omega)
      simp only [md_r23, md_a23, md_o, Option.bind_some, hp_ix_nI (show 20 + e < 40 by omega) (by decide), Option.map_some, p3]
      rw [md_excluded h m p4 hb n1 n2]
      simp only [md_r22, md_a22, Option.bind_some, hp_ix_nI (show 20 + e < 40 by omega) (by decide), Option.map_some, p1]
      by_cases hx : ExcD S (S.2 3) b (W.2.2.2.2 e)
      · rw [if_neg (fun z => zi_eq0.mp z hx), zi_1 ⟨h0, Or.inl hx⟩]
      · rw [if_pos (zi_eq0.mpr hx), ih (W.2.2.2.1 e) g' (by omega) (by omega) (by omega)]
        exact congrArg some (Prod.ext (zi_congr ⟨fun z => ⟨h0, Or.inr z⟩, fun z => z.2.elim (fun z => absurd z hx) id⟩) rfl)
theorem md_barred {S : MS} {W : WS} {N b e : Nat} (hW : RepW S W N) (hb : b ≤ 8) (hex : ∀ e, e < W.1 → 0 < e → ∃ ne, ne ≤ 3 ∧ S.2 14 (W.2.2.2.2 e) = nI ne) (he : e < W.1) : f_MD_barred (md_set h m S) m (nI (20 + e)) (nI b) = some (zi (brd S (S.2 3) b W 20 e), md_set h m S) := by
  have := hW.2.1
  exact md_barred_L h m hW hb hex FU e 20 he (FU_big (by omega)) (by omega)
/-- what a resolve leaves as it was -/
def Sd (S S' : MS) : Prop := (∀ k, k ≠ 2 → k ≠ 19 → k ≠ 25 → k ≠ 27 → k ≠ 28 → S'.1 k = S.1 k) ∧ (∀ k, k ≠ 3 → k ≠ 20 → k ≠ 21 → k ≠ 22 → k ≠ 23 → k ≠ 24 → k ≠ 26 → S'.2 k = S.2 k) ∧ ∀ e, e < 20 → S'.2 20 e = S.2 20 e ∧ S'.2 21 e = S.2 21 e ∧ S'.2 22 e = S.2 22 e
theorem Sd.rfl' {S : MS} : Sd S S := ⟨fun _ _ _ _ _ _ => rfl, fun _ _ _ _ _ _ _ _ => rfl, fun _ _ => ⟨rfl, rfl, rfl⟩⟩
theorem Sd.trans {S S' S'' : MS} (a : Sd S S') (b : Sd S' S'') : Sd S S'' := ⟨fun k h1 h2 h3 h4 h5 => (b.1 k h1 h2 h3 h4 h5).trans (a.1 k h1 h2 h3 h4 h5), fun k h1 h2 h3 h4 h5 h6 h7 => (b.2.1 k h1 h2 h3 h4 h5 h6 h7).trans (a.2.1 k h1 h2 h3 h4 h5 h6 h7), fun e he => ⟨(b.2.2 e he).1.trans (a.2.2 e he).1, (b.2.2 e he).2.1.trans (a.2.2 e he).2.1, (b.2.2 e he).2.2.trans (a.2.2 e he).2.2⟩⟩
theorem Sc.sd {S S' : MS} (hs : Sc S S') : Sd S S' := ⟨fun k _ _ h3 h4 h5 => hs.1 k h3 h4 h5, fun k _ _ _ _ _ h6 h7 => hs.2 k h6 h7, fun e _ => ⟨by rw [hs.2 20 (by decide) (by decide)], by rw [hs.2 21 (by decide) (by decide)], by rw [hs.2 22 (by decide) (by decide)]⟩⟩
theorem RepW.sc {S S' : MS} {W : WS} {N : Nat} (hW : RepW S W N) (hs : Sc S S') : RepW S' W N := by
  unfold RepW
  rw [hs.1 19 (by decide) (by decide) (by decide), hs.2 20 (by decide) (by decide), hs.2 21 (by decide) (by decide), hs.2 22 (by decide) (by decide), hs.2 23 (by decide) (by decide)]
  exact hW
theorem md_add {S : MS} {W : WS} {N a d p D : Nat} (hW : RepW S W N) (hM : W.1 < 20) (ha : a < N) (hd : d ≤ W.1) (y3 y4 : Int32) (hp : 0 < W.1 → y3 = nI (20 + p) ∧ p < W.1 ∧ y4 = nI D ∧ D < 120) : ∃ S' : MS, f_MD_add (md_set h m S) m (nI a) (nI d) y3 y4 = some (md_set h m S') ∧ Sd S S' ∧ S'.1 2 = S.1 2 ∧ S'.2 3 = S.2 3 ∧ RepW S' (wadd W a d p D) N ∧ S'.2 23 (20 + W.1) = y4 := by
  obtain ⟨w1, w2, w3, w4⟩ := hW
  unfold f_MD_add
  simp only [md_i19, md_r20, md_s20, md_r21, md_s21, md_r22, md_s22, md_r23, md_s23, md_w19, w1, Option.bind_some, show (20 : Int32) + nI W.1 = nI (20 + W.1) from nI_add 20 W.1, hp_ix_nI (show 20 + W.1 < 40 by omega) (by decide), Option.map_some]
  rw [nI_1]
  refine ⟨_, rfl, ⟨fun k h1 h2 h3 h4 h5 => ?_, fun k h1 h2 h3 h4 h5 h6 h7 => ?_, fun e he => ?_⟩, ?_, ?_, ⟨?_, ?_, fun e he => ?_, fun e he he0 => ?_⟩, ?_⟩
  · simp [va_up, h2]
  · simp [va_up, h2, h3, h4, h5]
  · simp [va_up, show ¬ e = 20 + W.1 by omega]
  · simp [va_up]
  · simp [va_up]
  · simp [va_up, wadd]
  · show W.1 + 1 ≤ 20; omega
  · have he' : e < W.1 + 1 := he
    by_cases hew : e = W.1
    · subst hew; simp [va_up, wadd, ha, hd]
    · obtain ⟨q1, q2, q3, q4⟩ := w3 e (by omega)
      simp [va_up, wadd, hew, q1, q2, q3, q4]
  · have he' : e < W.1 + 1 := he
    by_cases hew : e = W.1
    · subst hew
      obtain ⟨r1, r2, r3, r4⟩ := hp he0
      simp [va_up, wadd, r1, r2, r3, r4]
    · obtain ⟨q1, q2, q3, q4⟩ := w4 e (by omega) he0
      simp [va_up, wadd, hew, q1, q2, q3, q4]
  · simp [va_up]
end MDX
