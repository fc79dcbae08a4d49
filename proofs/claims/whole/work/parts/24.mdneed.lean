theorem pig : ∀ (N M : Nat) (f : Nat → Nat), (∀ e, e < M → f e < N) → (∀ e e', e < M → e' < M → f e = f e' → e = e') → M ≤ N := by
  intro N
  induction N with
  | zero =>
    intro M f h1 _
    rcases Nat.eq_zero_or_pos M with h | h
    · omega
    · exact absurd (h1 0 h) (by omega)
  | succ N ih =>
    intro M f h1 h2
    by_cases hx : ∃ e0, e0 < M ∧ f e0 = N
    · obtain ⟨e0, e1, e2⟩ := hx
      have := ih (M - 1) (fun e => if e = e0 then f (M - 1) else f e) (fun e he => by
        by_cases hq : e = e0
        · simp only [if_pos hq]
          have l1 := h1 (M - 1) (by omega)
          by_cases hz : f (M - 1) = N
          · have := h2 (M - 1) e0 (by omega) e1 (hz.trans e2.symm); omega
          · omega
        · simp only [if_neg hq]
          have l1 := h1 e (by omega)
          by_cases hz : f e = N
          · exact absurd (h2 e e0 (by omega) e1 (hz.trans e2.symm)) hq
          · omega) (fun e e' he he' hee => by
        by_cases hq : e = e0 <;> by_cases hq' : e' = e0
        · omega
        · simp only [if_pos hq, if_neg hq'] at hee
          have := h2 (M - 1) e' (by omega) (by omega) hee; omega
        · simp only [if_neg hq, if_pos hq'] at hee
          have := h2 e (M - 1) (by omega) (by omega) hee; omega
        · simp only [if_neg hq, if_neg hq'] at hee
          exact h2 e e' (by omega) (by omega) hee)
      omega
    · have := ih M f (fun e he => by
        have l1 := h1 e he
        by_cases hz : f e = N
        · exact absurd ⟨e, he, hz⟩ hx
        · omega) h2
      omega
/-- the first from k on, of n, that has P -/
noncomputable def fsn (P : Nat → Prop) : Nat → Nat → Option Nat
  | 0, _ => none
  | n + 1, k => @ite _ (P k) (Classical.propDecidable _) (some k) (fsn P n (k + 1))
theorem fsn_spec (P : Nat → Prop) : ∀ (n k : Nat), (∀ j, fsn P n k = some j → k ≤ j ∧ j < k + n ∧ P j) ∧ (fsn P n k = none → ∀ j, k ≤ j → j < k + n → ¬ P j)
  | 0, k => ⟨fun j h => by simp [fsn] at h, fun _ j h1 h2 => by omega⟩
  | n + 1, k => by
    rw [fsn]
    obtain ⟨g1, g2⟩ := fsn_spec P n (k + 1)
    by_cases h : P k
    · rw [if_pos h]
      exact ⟨fun j hj => by cases hj; exact ⟨Nat.le_refl _, by omega, h⟩, fun hj => by cases hj⟩
    · rw [if_neg h]
      refine ⟨fun j hj => ?_, fun hj j j1 j2 => ?_⟩
      · obtain ⟨a1, a2, a3⟩ := g1 j hj
        exact ⟨by omega, by omega, a3⟩
      · by_cases hjk : j = k
        · subst hjk; exact h
        · exact g2 hj j (by omega) (by omega)
theorem pkF_spec (ok : Nat → Prop) (ab : Nat → Nat → Prop) : ∀ (n x : Nat) (b : Option Nat), (∀ y, pkF ok ab n x b = some y → (b = some y ∨ (x ≤ y ∧ y < x + n ∧ ok y))) ∧ (pkF ok ab n x b = none → b = none ∧ ∀ y, x ≤ y → y < x + n → ¬ ok y)
  | 0, x, b => ⟨fun y h => Or.inl h, fun h => ⟨h, fun y h1 h2 => by omega⟩⟩
  | n + 1, x, b => by
    rw [pkF]
    by_cases h : ok x ∧ ∀ y, b = some y → ab x y
    · rw [if_pos h]
      obtain ⟨g1, g2⟩ := pkF_spec ok ab n (x + 1) (some x)
      refine ⟨fun y hy => ?_, fun hy => absurd (g2 hy).1 (by simp)⟩
      rcases g1 y hy with q | ⟨q1, q2, q3⟩
      · cases q; exact Or.inr ⟨Nat.le_refl _, by omega, h.1⟩
      · exact Or.inr ⟨by omega, by omega, q3⟩
    · rw [if_neg h]
      obtain ⟨g1, g2⟩ := pkF_spec ok ab n (x + 1) b
      refine ⟨fun y hy => ?_, fun hy => ?_⟩
      · rcases g1 y hy with q | ⟨q1, q2, q3⟩
        · exact Or.inl q
        · exact Or.inr ⟨by omega, by omega, q3⟩
      · obtain ⟨q1, q2⟩ := g2 hy
        refine ⟨q1, fun y y1 y2 => ?_⟩
        by_cases hyx : y = x
        · subst hyx; exact fun z => h ⟨z, fun y' hy' => by rw [q1] at hy'; cases hy'⟩
        · exact q2 y (by omega) (by omega)
theorem pkF_congr {ok ok' : Nat → Prop} {ab ab' : Nat → Nat → Prop} {N : Nat} (h1 : ∀ i, i < N → (ok i ↔ ok' i)) (h2 : ∀ i j, i < N → j < N → (ab i j ↔ ab' i j)) : ∀ (n x : Nat) (b : Option Nat), x + n = N → (∀ y, b = some y → y < N) → pkF ok ab n x b = pkF ok' ab' n x b
  | 0, x, b, _, _ => rfl
  | n + 1, x, b, hx, hb => by
    rw [pkF, pkF]
    have e : (ok x ∧ ∀ y, b = some y → ab x y) ↔ (ok' x ∧ ∀ y, b = some y → ab' x y) := by
      rw [h1 x (by omega)]
      refine and_congr Iff.rfl ⟨fun z y hy => ?_, fun z y hy => ?_⟩
      · exact (h2 x y (by omega) (hb y hy)).mp (z y hy)
      · exact (h2 x y (by omega) (hb y hy)).mpr (z y hy)
    by_cases hc : ok x ∧ ∀ y, b = some y → ab x y
    · rw [if_pos hc, if_pos (e.mp hc)]
      exact pkF_congr h1 h2 n (x + 1) (some x) (by omega) (fun y hy => by cases hy; omega)
    · rw [if_neg hc, if_neg (fun z => hc (e.mpr z))]
      exact pkF_congr h1 h2 n (x + 1) b (by omega) hb
/-- artifact i is one that the range c q+1 .. n wants under the name c 0 .. q -/
def okC (S : MS) (c : Nat → Int32) (q n i : Nat) : Prop := S.2 8 i = 0 ∧ NmEq S i c q ∧ HoldsP c (q + 1) n (avr S i (tc S i)) (vl S i)
/-- one dependency D of entry e followed: the outcome and the entries behind it -/
noncomputable def ndS (S : MS) (N : Nat) (W : WS) (e D : Nat) : Int32 × WS :=
  @ite _ (brd S (dtx S D) (dq S D) W 20 e ∨ (S.2 11 D ≠ 0 ∧ W.2.2.1 e ≠ 0)) (Classical.propDecidable _) (0, W)
    (match fsn (fun j => NmEq S (W.2.1 j) (dtx S D) (dq S D)) W.1 0 with
      | some j => @ite _ (VrP (dtx S D) (dq S D + 1) (dl S D) ∨ HoldsP (dtx S D) (dq S D + 1) (dl S D) (avr S (W.2.1 j) (tc S (W.2.1 j))) (vl S (W.2.1 j))) (Classical.propDecidable _) (0, W) (-5, W)
      | none => match pkF (okC S (dtx S D) (dq S D) (dl S D)) (abP S) N 0 none with
        | none => (-4, W)
        | some a => (0, wadd W a (W.2.2.1 e + 1) e D))
/-- dependency D as the tables have it -/
def DepV (S : MS) (D : Nat) : Prop := (D < 120 ∧ S.2 12 D = nI (dl S D) ∧ dl S D ≤ 40 ∧ LineR (dtx S D) (dl S D) ∧ (S.2 11 D = 0 ∨ S.2 11 D = 1)) ∧ ∃ ne, ne ≤ 3 ∧ S.2 14 D = nI ne ∧ ∀ e, e < ne → S.2 15 (D * 3 + e) = nI (xl S (D * 3 + e)) ∧ NmP (xtx S (D * 3 + e)) 0 (xl S (D * 3 + e))
/-- the entries are of different artifacts; their dependencies are ones -/
def Win (S : MS) (W : WS) : Prop := (∀ e e', e < W.1 → e' < W.1 → W.2.1 e = W.2.1 e' → e = e') ∧ ∀ e, e < W.1 → 0 < e → DepV S (W.2.2.2.2 e)
theorem ArtV.sd {S S' : MS} {i : Nat} (hv : ArtV S i) (hs : Sd S S') : ArtV S' i := by
  unfold ArtV ArtT tl tc at hv ⊢
  rw [hs.2.1 5 (by decide) (by decide) (by decide) (by decide) (by decide) (by decide) (by decide), hs.2.1 6 (by decide) (by decide) (by decide) (by decide) (by decide) (by decide) (by decide), hs.2.1 7 (by decide) (by decide) (by decide) (by decide) (by decide) (by decide) (by decide)]
  exact hv
section MDN
variable (h : hp_H) (m : Nat)
theorem md_need_43 {S0 : MS} {W : WS} {N e D q n : Nat} {c : Nat → Int32} (hN : N ≤ 20) (hn : n ≤ 40) (hq : q + 1 ≤ n) (hc58 : fx c 58 0 n = q) (hr : RgP c (q + 1) n) (hV : ∀ i, i < N → ArtV S0 i) (h4 : S0.1 4 = nI N) (he : e < W.1) (hD : D < 120) (hinj : ∀ e e', e < W.1 → e' < W.1 → W.2.1 e = W.2.1 e' → e = e') : ∀ (f k : Nat) (S : MS), Sd S0 S → RepW S W N → S.1 2 = nI n → (∀ j, j < n → S.2 3 j = c j) → k ≤ W.1 → W.1 - k < f → (∀ j, j < k → ¬ NmEq S0 (W.2.1 j) c q) →
    ∃ S' : MS, f_MD_need_L43 f m (nI (20 + e)) (nI D) (nI q) (nI (20 + k)) (md_set h m S) = some ((match fsn (fun j => NmEq S0 (W.2.1 j) c q) (W.1 - k) k with
      | some j => @ite _ (VrP c (q + 1) n ∨ HoldsP c (q + 1) n (avr S0 (W.2.1 j) (tc S0 (W.2.1 j))) (vl S0 (W.2.1 j))) (Classical.propDecidable _) (0, W) (-5, W)
      | none => match pkF (okC S0 c q n) (abP S0) N 0 none with
        | none => (-4, W)
        | some a => ((0 : Int32), wadd W a (W.2.2.1 e + 1) e D)).1, md_set h m S') ∧ Sd S0 S' ∧ (RepW S' (match fsn (fun j => NmEq S0 (W.2.1 j) c q) (W.1 - k) k with
      | some j => @ite _ (VrP c (q + 1) n ∨ HoldsP c (q + 1) n (avr S0 (W.2.1 j) (tc S0 (W.2.1 j))) (vl S0 (W.2.1 j))) (Classical.propDecidable _) (0, W) (-5, W)
      | none => match pkF (okC S0 c q n) (abP S0) N 0 none with
        | none => (-4, W)
        | some a => ((0 : Int32), wadd W a (W.2.2.1 e + 1) e D)).2 N) := by
  intro f
  induction f with
  | zero => intro k S _ _ _ _ _ hf; omega
  | succ f ih =>
    intro k S hs hW h2 h3 hk hf hno
    have w := hW
    obtain ⟨w1, w2, w3, w4⟩ := w
    simp only [f_MD_need_L43, md_i19, Option.bind_some, w1, show (20 : Int32) + nI W.1 = nI (20 + W.1) from nI_add 20 W.1]
    have u : ∀ k, k ≠ 3 → k ≠ 20 → k ≠ 21 → k ≠ 22 → k ≠ 23 → k ≠ 24 → k ≠ 26 → S.2 k = S0.2 k := hs.2.1
    have e5 := u 5 (by decide) (by decide) (by decide) (by decide) (by decide) (by decide) (by decide)
    have e6 := u 6 (by decide) (by decide) (by decide) (by decide) (by decide) (by decide) (by decide)
    have e7 := u 7 (by decide) (by decide) (by decide) (by decide) (by decide) (by decide) (by decide)
    have e8 := u 8 (by decide) (by decide) (by decide) (by decide) (by decide) (by decide) (by decide)
    have hVs : ∀ i, i < N → ArtV S i := fun i hi => (hV i hi).sd hs
    have hnmE : ∀ i, HasNm S i q ↔ NmEq S0 i c q := by
      intro i
      unfold HasNm NmEq
      rw [e7, e6]
      exact and_congr Iff.rfl ⟨fun z k hk => by rw [← h3 k (by omega)]; exact z k hk, fun z k hk => by rw [h3 k (by omega)]; exact z k hk⟩
    have havr : ∀ i, avr S i (tc S i) = avr S0 i (tc S0 i) := fun i => by unfold avr tc; rw [e6, e7]
    have hvl : ∀ i, vl S i = vl S0 i := fun i => by unfold vl tl tc; rw [e5, e7]
    have htl : ∀ i, tl S i - (tc S i + 1) = vl S0 i := fun i => hvl i
    have hrS : RgP (S.2 3) (q + 1) n := (RgP_congr (fun k _ k2 => h3 k k2)).mpr hr
    have hho : ∀ i, HoldsP (S.2 3) (q + 1) n (avr S i (tc S i)) (vl S i) ↔ HoldsP c (q + 1) n (avr S0 i (tc S0 i)) (vl S0 i) := fun i => by
      rw [havr, hvl]
      exact HoldsP_congr (fun k _ k2 => h3 k k2) (fun _ _ => rfl) hrS
    by_cases hlt : k < W.1
    · rw [if_neg (nI_ge (by omega) (by omega)), show W.1 - k = (W.1 - (k + 1)) + 1 by omega, fsn]
      obtain ⟨q1, q2, -, -⟩ := w3 k hlt
      simp only [md_r20, md_a20, md_o, Option.bind_some, hp_ix_nI (show 20 + k < 40 by omega) (by decide), Option.map_some, q1]
      rw [md_hasName h m (hVs _ q2).1 (by omega)]
      simp only [md_i2, md_o, Option.bind_some, h2]
      by_cases hnm : NmEq S0 (W.2.1 k) c q
      · rw [if_neg (fun z => zi_eq0.mp z ((hnmE _).mpr hnm)), if_pos hnm, show nI q + 1 = nI (q + 1) from nI_1 q, md_isVersion h m S (by omega) hn]
        simp only [md_r20, md_a20, md_o, Option.bind_some, hp_ix_nI (show 20 + k < 40 by omega) (by decide), Option.map_some, q1]
        have hvrE : VrP (S.2 3) (q + 1) n ↔ VrP c (q + 1) n := VrP_congr (fun k _ k2 => h3 k k2)
        by_cases hvr : VrP c (q + 1) n
        · rw [if_neg (fun z => zi_eq0.mp z (hvrE.mpr hvr)), if_pos (Or.inl hvr)]
          exact ⟨S, rfl, hs, hW⟩
        · rw [if_pos (zi_eq0.mpr (fun z => hvr (hvrE.mp z)))]
          obtain ⟨S1, f1, f2⟩ := md_holds h m (hVs _ q2).1 (hVs _ q2).ver hn hq h2 hrS
          rw [f1]
          simp only [Option.bind_some]
          rw [zi_congr (show HoldsP (S.2 3) (q + 1) n (avr S (W.2.1 k) (tc S (W.2.1 k))) (tl S (W.2.1 k) - (tc S (W.2.1 k) + 1)) ↔ HoldsP c (q + 1) n (avr S0 (W.2.1 k) (tc S0 (W.2.1 k))) (vl S0 (W.2.1 k)) from hho _)]
          by_cases hho' : HoldsP c (q + 1) n (avr S0 (W.2.1 k) (tc S0 (W.2.1 k))) (vl S0 (W.2.1 k))
          · rw [if_neg (fun z => zi_eq0.mp z hho'), if_pos (Or.inr hho')]
            exact ⟨S1, rfl, hs.trans f2.sd, hW.sc f2⟩
          · rw [if_pos (zi_eq0.mpr hho'), if_neg (fun z => z.elim hvr hho')]
            exact ⟨S1, rfl, hs.trans f2.sd, hW.sc f2⟩
      · rw [if_pos (zi_eq0.mpr (fun z => hnm ((hnmE _).mp z))), if_neg hnm, nI_1, show 20 + k + 1 = 20 + (k + 1) by omega]
        exact ih (k + 1) S hs hW h2 h3 (by omega) (by omega) (fun j hj => by
          by_cases hjk : j = k
          · subst hjk; exact hnm
          · exact hno j (by omega))
    · have hkN : k = W.1 := by omega
      subst hkN
      rw [if_pos (nI_le (Nat.le_refl _) (by omega)), Nat.sub_self, fsn]
      simp only [md_o, Option.bind_some]
      have hfx : fx (S.2 3) 58 0 n = q := by rw [← hc58]; exact fx_congr (fun k _ k2 => h3 k (by omega))
      obtain ⟨S1, f1, f2⟩ := md_pick h m (S := S) (n := n) (N := N) hn (by rw [hfx]; exact hq) h2 (by rw [hs.1 4 (by decide) (by decide) (by decide) (by decide) (by decide)]; exact h4) hN (by rw [hfx]; exact hrS) hVs
      rw [hfx] at f1
      have hpk : pkF (okP S q n) (abP S) N 0 none = pkF (okC S0 c q n) (abP S0) N 0 none := by
        refine pkF_congr (N := N) (fun i _ => ?_) (fun i j _ _ => ?_) N 0 none (by omega) (fun y hy => by cases hy)
        · unfold okP okC
          rw [hnmE, hho, e8]
        · unfold abP
          rw [havr, havr, hvl, hvl]
      rw [hpk] at f1
      rw [f1]
      simp only [Option.bind_some]
      cases hp : pkF (okC S0 c q n) (abP S0) N 0 none with
      | none =>
        rw [if_neg (show ¬ (0 : Int32) ≤ enc none by decide)]
        exact ⟨S1, rfl, hs.trans f2.sd, hW.sc f2⟩
      | some a =>
        have ha : a < N ∧ okC S0 c q n a := by
          rcases (pkF_spec _ _ N 0 none).1 a hp with z | ⟨_, z2, z3⟩
          · cases z
          · exact ⟨by omega, z3⟩
        rw [if_pos (show (0 : Int32) ≤ enc (some a) from nI_pos' (by omega))]
        have hW1 := hW.sc f2
        obtain ⟨v1, v2, v3, v4⟩ := hW1
        obtain ⟨y1, y2, y3, y4⟩ := v3 e he
        simp only [md_r21, md_a21, md_o, Option.bind_some, hp_ix_nI (show 20 + e < 40 by omega) (by decide), Option.map_some, y3, show enc (some a) = nI a from rfl]
        rw [nI_1]
        by_cases hcap : W.1 < 20
        · obtain ⟨S', g1, g2, g3, g4, g5, g6⟩ := md_add h m (hW.sc f2) hcap ha.1 (d := W.2.2.1 e + 1) (p := e) (D := D) (by omega) (nI (20 + e)) (nI D) (fun _ => ⟨rfl, he, rfl, hD⟩)
          rw [g1]
          exact ⟨S', rfl, (hs.trans f2.sd).trans g2, g5⟩
        · have hW20 : W.1 = 20 := by omega
          have := pig N (W.1 + 1) (va_up W.2.1 W.1 a) (fun x hx => by
              by_cases hxw : x = W.1
              · rw [hxw, va_up_self]; exact ha.1
              · rw [va_up_ne _ _ hxw]; exact (w3 x (by omega)).2.1) (fun x x' hx hx' hxx => by
              by_cases hxw : x = W.1 <;> by_cases hxw' : x' = W.1
              · omega
              · rw [hxw, va_up_self, va_up_ne _ _ hxw'] at hxx
                exact absurd (hxx ▸ ha.2.2.1) (hno x' (by omega))
              · rw [hxw', va_up_self, va_up_ne _ _ hxw] at hxx
                exact absurd (hxx.symm ▸ ha.2.2.1) (hno x (by omega))
              · rw [va_up_ne _ _ hxw, va_up_ne _ _ hxw'] at hxx
                exact hinj x x' (by omega) (by omega) hxx)
          omega
end MDN
