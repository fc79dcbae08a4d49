/-- the result that the working entries become -/
def ResW (S : MS) (W : WS) : Prop := S.1 18 = nI W.1 ∧ (∀ e, e < W.1 → S.2 20 e = nI (W.2.1 e) ∧ S.2 21 e = nI (W.2.2.1 e)) ∧ ∀ e, e < W.1 → 0 < e → S.2 22 e = nI (W.2.2.2.1 e)
/-- what a resolve that took leaves as it was -/
def Se (S S' : MS) : Prop := (S'.1 0 = S.1 0 ∧ S'.1 4 = S.1 4 ∧ S'.1 17 = S.1 17) ∧ ∀ k, k ≠ 3 → k ≠ 20 → k ≠ 21 → k ≠ 22 → k ≠ 23 → k ≠ 24 → k ≠ 26 → S'.2 k = S.2 k
theorem ndS_2 {S : MS} (f : Nat → Int32) {N : Nat} (W : WS) (e D : Nat) : ndS (f, S.2) N W e D = ndS S N W e D := by
  unfold ndS
  rw [show brd (f, S.2) (dtx (f, S.2) D) (dq (f, S.2) D) W 20 e = brd S (dtx S D) (dq S D) W 20 e from propext (brd_congr (fun _ => Iff.rfl) 20 e)]
  rfl
theorem rkS_2 {S : MS} (f : Nat → Int32) {N : Nat} : ∀ (n : Nat) (W : WS) (e k : Nat), rkS (f, S.2) N n W e k = rkS S N n W e k
  | 0, _, _, _ => rfl
  | n + 1, W, e, k => by rw [rkS, rkS, ndS_2, rkS_2 f n]
theorem reS_2 {S : MS} (f : Nat → Int32) {N : Nat} : ∀ (n : Nat) (W : WS) (e : Nat), reS (f, S.2) N n W e = reS S N n W e
  | 0, _, _ => rfl
  | n + 1, W, e => by
    rw [reS, reS, show ndc (f, S.2) (W.2.1 e) = ndc S (W.2.1 e) from rfl, rkS_2]
    split
    · rfl
    · split
      · rfl
      · exact reS_2 f n _ _
section MDS
variable (h : hp_H) (m : Nat)
theorem md_isName0 (S : MS) {b : Nat} (hb : b ≤ 40) : f_MD_isName (md_set h m S) m 0 (nI b) = some (zi (NmP (S.2 3) 0 b), md_set h m S) := md_isName h m S (a := 0) (Nat.zero_le _) hb
theorem md_res_171 {W : WS} {N : Nat} : ∀ (f k : Nat) (S : MS), RepW S W N → S.1 18 = nI W.1 → k ≤ W.1 → W.1 - k < f → (∀ e, e < k → S.2 20 e = nI (W.2.1 e) ∧ S.2 21 e = nI (W.2.2.1 e)) → (∀ e, e < k → 0 < e → S.2 22 e = nI (W.2.2.2.1 e)) → ∃ S', f_MD_resolve_L171 f m (nI k) (md_set h m S) = some (nI W.1, md_set h m S') ∧ S'.1 = S.1 ∧ (∀ j, j ≠ 20 → j ≠ 21 → j ≠ 22 → S'.2 j = S.2 j) ∧ (∀ e, e < W.1 → S'.2 20 e = nI (W.2.1 e) ∧ S'.2 21 e = nI (W.2.2.1 e)) ∧ ∀ e, e < W.1 → 0 < e → S'.2 22 e = nI (W.2.2.2.1 e) := by
  intro f
  induction f with
  | zero => intro k S _ _ _ hf; omega
  | succ f ih =>
    intro k S hR h18 hk hf h20 h22
    obtain ⟨w1, w2, w3, w4⟩ := id hR
    simp only [f_MD_resolve_L171, md_i18, Option.bind_some, h18]
    by_cases hlt : k < W.1
    · rw [if_neg (nI_ge hlt (by omega)), show nI k + 20 = nI (k + 20) from nI_add k 20, show k + 20 = 20 + k by omega]
      obtain ⟨a1, a2, a3, a4⟩ := w3 k hlt
      simp only [md_r20, md_a20, md_s20, md_r21, md_a21, md_s21, md_r22, md_a22, md_s22, Option.bind_some, hp_ix_nI (show 20 + k < 40 by omega) (by decide), hp_ix_nI (show k < 40 by omega) (by decide), Option.map_some]
      rw [nI_1]
      have step : ∀ Sn : MS, Sn.1 = S.1 → Sn.2 20 = va_up (S.2 20) k (nI (W.2.1 k)) → Sn.2 21 = va_up (S.2 21) k (nI (W.2.2.1 k)) → Sn.2 22 = va_up (S.2 22) k (S.2 22 (20 + k) - 20) → (∀ j, j ≠ 20 → j ≠ 21 → j ≠ 22 → Sn.2 j = S.2 j) → ∃ S', f_MD_resolve_L171 f m (nI (k + 1)) (md_set h m Sn) = some (nI W.1, md_set h m S') ∧ S'.1 = S.1 ∧ (∀ j, j ≠ 20 → j ≠ 21 → j ≠ 22 → S'.2 j = S.2 j) ∧ (∀ e, e < W.1 → S'.2 20 e = nI (W.2.1 e) ∧ S'.2 21 e = nI (W.2.2.1 e)) ∧ ∀ e, e < W.1 → 0 < e → S'.2 22 e = nI (W.2.2.2.1 e) := by
        intro Sn m1 m20 m21 m22 mo
        obtain ⟨S', r1, r2, r3, r4, r5⟩ := ih (k + 1) Sn ⟨by rw [m1]; exact w1, w2, fun e he => by rw [m20, m21, va_up_ne _ _ (by omega), va_up_ne _ _ (by omega)]; exact w3 e he, fun e he he0 => by rw [m22, mo 23 (by decide) (by decide) (by decide), va_up_ne _ _ (by omega)]; exact w4 e he he0⟩ (by rw [m1]; exact h18) (by omega) (by omega) (fun e he => by
          by_cases hek : e = k
          · rw [m20, m21, hek, va_up_self, va_up_self]; exact ⟨rfl, rfl⟩
          · rw [m20, m21, va_up_ne _ _ hek, va_up_ne _ _ hek]; exact h20 e (by omega)) (fun e he he0 => by
          by_cases hek : e = k
          · rw [m22, hek, va_up_self, (w4 k hlt (by omega)).1]
            show nI (20 + W.2.2.2.1 k) - nI 20 = _
            rw [pk_sub (by omega), show 20 + W.2.2.2.1 k - 20 = W.2.2.2.1 k by omega]
          · rw [m22, va_up_ne _ _ hek]; exact h22 e (by omega) he0)
        exact ⟨S', r1, r2.trans m1, fun j j1 j2 j3 => (r3 j j1 j2 j3).trans (mo j j1 j2 j3), r4, r5⟩
      exact step _ rfl (by simp [va_up, a1]) (by simp [va_up, a3]) (by simp [va_up]) (fun j j1 j2 j3 => by simp [va_up, j1, j2, j3])
    · have hkN : k = W.1 := by omega
      rw [if_pos (nI_le (show W.1 ≤ k by omega) (by omega))]
      exact ⟨S, rfl, rfl, fun _ _ _ _ => rfl, fun e he => h20 e (by omega), fun e he he0 => h22 e (by omega) he0⟩
theorem md_res_76 {S0 : MS} {N : Nat} (hT : TabV S0 N) : ∀ (f e : Nat) (S : MS) (W : WS), Sd S0 S → RepW S W N → WokP S0 N W → e ≤ W.1 → 20 - e < f →
    (∃ c k, reS S0 N (21 - e) W e = .inl (c, k) ∧ (c = -4 ∨ c = -5) ∧ ∃ S', f_MD_resolve_L76 f m (nI (20 + e)) (md_set h m S) = some (c, md_set h m (va_up S'.1 17 (nI k), S'.2)) ∧ Sd S0 S') ∨
    (∃ W', reS S0 N (21 - e) W e = .inr W' ∧ WokP S0 N W' ∧ W.1 ≤ W'.1 ∧ ∃ S', f_MD_resolve_L76 f m (nI (20 + e)) (md_set h m S) = some (nI W'.1, md_set h m S') ∧ ResW S' W' ∧ Se S0 S') := by
  intro f
  induction f with
  | zero => intro e S W _ _ _ _ hf; omega
  | succ f ih =>
    intro e S W hs hR hW he hf
    have hw20 := hR.2.1
    obtain ⟨t, ht⟩ : ∃ t, 21 - e = t + 1 := ⟨20 - e, by omega⟩
    simp only [f_MD_resolve_L76, md_i19, Option.bind_some, hR.1, show (20 : Int32) + nI W.1 = nI (20 + W.1) from nI_add 20 W.1]
    rw [ht, reS]
    by_cases hlt : e < W.1
    · rw [if_neg (nI_ge (by omega) (by omega)), if_neg (by omega)]
      have main := md_res_90 h m (S0 := S0) (N := N) (e := e) (a := W.2.1 e) hT (f_MD_resolve_L76 f) FU 0 S W hs hR hW hlt rfl (Nat.zero_le _) (FU_big (by have := (hT.2.2 _ (hW.2.1 e hlt).1).2.2.2.1; omega))
      rw [Nat.sub_zero, nI_0] at main
      rcases main with ⟨c, kk, m1, m2, m3, m4⟩ | ⟨W', m1, m2, m3, S', m4, m5, m6⟩
      · rw [m1]
        exact Or.inl ⟨c, 8 * W.2.1 e + kk, rfl, m2, m4⟩
      · rw [m1, m4]
        have e21 : 21 - (e + 1) = t := by omega
        have := ih (e + 1) S' W' m5 m6 m2 (by omega) (by omega)
        rw [e21] at this
        rcases this with z | ⟨W'', z1, z2, z3, z4⟩
        · exact Or.inl z
        · exact Or.inr ⟨W'', z1, z2, by omega, z4⟩
    · have hkN : e = W.1 := by omega
      rw [if_pos (nI_le (by omega) (by omega)), if_pos (by omega)]
      simp only [md_i19, md_w18, hR.1, Option.bind_some]
      have hR2 : RepW (va_up S.1 18 (nI W.1), S.2) W N := by
        obtain ⟨a1, a2⟩ := hR
        exact ⟨by simp [va_up, a1], a2⟩
      obtain ⟨S', r1, r2, r3, r4, r5⟩ := md_res_171 h m FU 0 (va_up S.1 18 (nI W.1), S.2) hR2 (by simp [va_up]) (Nat.zero_le _) (FU_big (by omega)) (fun x hx => absurd hx (by omega)) (fun x hx => absurd hx (by omega))
      rw [nI_0] at r1
      refine Or.inr ⟨W, rfl, hW, Nat.le_refl _, S', r1, ⟨?_, r4, r5⟩, ⟨?_, ?_, ?_⟩, fun k k1 k2 k3 k4 k5 k6 k7 => ?_⟩
      · rw [r2]; simp [va_up]
      · rw [r2]; show va_up S.1 18 (nI W.1) 0 = _; rw [va_up_ne _ _ (by decide)]; exact hs.1 0 (by decide) (by decide) (by decide) (by decide) (by decide)
      · rw [r2]; show va_up S.1 18 (nI W.1) 4 = _; rw [va_up_ne _ _ (by decide)]; exact hs.1 4 (by decide) (by decide) (by decide) (by decide) (by decide)
      · rw [r2]; show va_up S.1 18 (nI W.1) 17 = _; rw [va_up_ne _ _ (by decide)]; exact hs.1 17 (by decide) (by decide) (by decide) (by decide) (by decide)
      · rw [r3 k k2 k3 k4]; exact hs.2.1 k k1 k2 k3 k4 k5 k6 k7
/-- the first entry -/
def w1S (a : Nat) : WS := (1, fun _ => a, fun _ => 0, fun _ => 0, fun _ => 0)
theorem md_resolve {S : MS} {len N : Nat} (hlen : len ≤ 40) (h0 : S.1 0 = nI len) (hT : TabV S N) :
    (¬ LineR (S.2 1) len → ∃ S', f_MD_resolve (md_set h m S) m = some (-3, md_set h m S') ∧ Vw (tkS S) S') ∧
    (LineR (S.2 1) len → pkF (okC S (S.2 1) (fx (S.2 1) 58 0 len) len) (abP S) N 0 none = none → ∃ S', f_MD_resolve (md_set h m S) m = some (-4, md_set h m S') ∧ Vw (va_up (tkS S).1 17 (-1), S.2) S') ∧
    (∀ a, LineR (S.2 1) len → pkF (okC S (S.2 1) (fx (S.2 1) 58 0 len) len) (abP S) N 0 none = some a →
      (∀ c k, reS S N 21 (w1S a) 0 = .inl (c, k) → (c = -4 ∨ c = -5) ∧ ∃ S', f_MD_resolve (md_set h m S) m = some (c, md_set h m S') ∧ Vw (va_up (tkS S).1 17 (nI k), S.2) S') ∧
      (∀ W', reS S N 21 (w1S a) 0 = .inr W' → WokP S N W' ∧ 1 ≤ W'.1 ∧ ∃ S', f_MD_resolve (md_set h m S) m = some (nI W'.1, md_set h m S') ∧ ResW S' W' ∧ Se (va_up (tkS S).1 17 (-1), S.2) S')) := by
  obtain ⟨S1, t1, t2, t3, t4⟩ := md_take h m hlen h0
  have hTk : Tkn S S1 len := ⟨t2, t3, t4⟩
  obtain ⟨g1, g2, g3, g4⟩ := fx_spec (S.2 1) 58 len 0
  have hfx := hTk.fx 58
  have hnm : NmP (S1.2 3) 0 (fx (S.2 1) 58 0 len) ↔ NmP (S.2 1) 0 (fx (S.2 1) 58 0 len) := NmP_congr (fun k _ k2 => t4 k (by omega))
  have hrg : RgP (S1.2 3) (fx (S.2 1) 58 0 len + 1) len ↔ RgP (S.2 1) (fx (S.2 1) 58 0 len + 1) len := RgP_congr (fun k _ k2 => t4 k (by omega))
  have hN := hT.1
  have start : f_MD_resolve (md_set h m S) m = (if zi (NmP (S.2 1) 0 (fx (S.2 1) 58 0 len)) = 0 then some (-3, md_set h m S1) else if nI (fx (S.2 1) 58 0 len) = nI len then some (-3, md_set h m S1) else if zi (RgP (S.2 1) (fx (S.2 1) 58 0 len + 1) len) = 0 then some (-3, md_set h m S1) else
      (f_MD_pick (md_set h m (va_up S1.1 17 (-1), S1.2)) m).bind fun q26 => if 0 ≤ q26.1 then (hp_s q26.2 (some m) 7 19 (.int 0)).bind fun h31 => (hp_o h31 (some m) 7).bind fun _ => (f_MD_add h31 m q26.1 0 (-1) (-1)).bind fun q33 => f_MD_resolve_L76 FU m 20 q33 else some (-4, q26.2)) := by
    unfold f_MD_resolve
    simp only [md_o, Option.bind_some, t1]
    rw [md_colonAt h m S1 hlen hTk.n, hfx]
    simp only [md_o, Option.bind_some]
    rw [md_isName0 h m S1 (by omega), zi_congr hnm]
    simp only [Option.bind_some, md_i2, md_o, hTk.n]
    split
    · rfl
    · split
      · rfl
      · rename_i hne
        have hq : fx (S.2 1) 58 0 len + 1 ≤ len := by
          rcases Nat.lt_or_ge (fx (S.2 1) 58 0 len) len with z | z
          · omega
          · exact absurd (by rw [show fx (S.2 1) 58 0 len = len by omega]) hne
        rw [show nI (fx (S.2 1) 58 0 len) + 1 = nI (fx (S.2 1) 58 0 len + 1) from nI_1 _, md_isRange h m S1 hq hlen, zi_congr hrg]
        simp only [Option.bind_some, md_w17, md_o]
  refine ⟨fun hbad => ⟨S1, ?_, hTk.vw⟩, ?_⟩
  · rw [start]
    by_cases a1 : NmP (S.2 1) 0 (fx (S.2 1) 58 0 len)
    · rw [if_neg (fun z => zi_eq0.mp z a1)]
      by_cases a2 : fx (S.2 1) 58 0 len = len
      · rw [if_pos (by rw [a2])]
      · rw [if_neg (by rw [nI_eq (by omega) (by omega)]; exact a2), if_pos (zi_eq0.mpr (fun a3 => hbad ⟨a1, a2, a3⟩))]
    · rw [if_pos (zi_eq0.mpr a1)]
  · have pickE : LineR (S.2 1) len → ∃ S2, f_MD_pick (md_set h m (va_up S1.1 17 (-1), S1.2)) m = some (enc (pkF (okC S (S.2 1) (fx (S.2 1) 58 0 len) len) (abP S) N 0 none), md_set h m S2) ∧ Sc (va_up S1.1 17 (-1), S1.2) S2 ∧ f_MD_resolve (md_set h m S) m = (if 0 ≤ enc (pkF (okC S (S.2 1) (fx (S.2 1) 58 0 len) len) (abP S) N 0 none) then (hp_s (md_set h m S2) (some m) 7 19 (.int 0)).bind fun h31 => (hp_o h31 (some m) 7).bind fun _ => (f_MD_add h31 m (enc (pkF (okC S (S.2 1) (fx (S.2 1) 58 0 len) len) (abP S) N 0 none)) 0 (-1) (-1)).bind fun q33 => f_MD_resolve_L76 FU m 20 q33 else some (-4, md_set h m S2)) := by
      intro ⟨b1, b2, b3⟩
      have hq : fx (S.2 1) 58 0 len + 1 ≤ len := by omega
      have hVs : ∀ i, i < N → ArtV (va_up S1.1 17 (-1), S1.2) i := fun i hi => by
        have := (hT.2.2 i hi).1
        unfold ArtV ArtT tl tc at this ⊢
        simp only [t3 5 (by decide), t3 6 (by decide), t3 7 (by decide)]
        exact this
      obtain ⟨S2, p1, p2⟩ := md_pick h m (S := (va_up S1.1 17 (-1), S1.2)) (n := len) (N := N) hlen (by simp only [hfx]; exact hq) (by simp [va_up, hTk.n]) (by simp [va_up, t2, hT.2.1]) hN (by simp only [hfx]; exact hrg.mpr b3) hVs
      simp only [hfx] at p1
      have hpk : pkF (okP (va_up S1.1 17 (-1), S1.2) (fx (S.2 1) 58 0 len) len) (abP (va_up S1.1 17 (-1), S1.2)) N 0 none = pkF (okC S (S.2 1) (fx (S.2 1) 58 0 len) len) (abP S) N 0 none := by
        refine pkF_congr (N := N) (fun i _ => ?_) (fun i j _ _ => ?_) N 0 none (by omega) (fun y hy => by cases hy)
        · unfold okP okC HasNm NmEq avr vl tl tc
          simp only [t3 5 (by decide), t3 6 (by decide), t3 7 (by decide), t3 8 (by decide)]
          refine and_congr Iff.rfl (and_congr (and_congr Iff.rfl ⟨fun z k hk => ?_, fun z k hk => ?_⟩) (HoldsP_congr (fun k _ k2 => t4 k k2) (fun _ _ => rfl) (hrg.mpr b3)))
          · rw [← t4 k (by omega)]; exact z k hk
          · rw [t4 k (by omega)]; exact z k hk
        · unfold abP avr vl tl tc
          simp only [t3 5 (by decide), t3 6 (by decide), t3 7 (by decide)]
      rw [hpk] at p1
      refine ⟨S2, p1, p2, ?_⟩
      rw [start, if_neg (fun z => zi_eq0.mp z b1), if_neg (by rw [nI_eq (by omega) (by omega)]; exact b2), if_neg (fun z => zi_eq0.mp z b3), p1, Option.bind_some]
    have vw2 : ∀ S2, Sc (va_up S1.1 17 (-1), S1.2) S2 → Vw (va_up (tkS S).1 17 (-1), S.2) S2 := fun S2 hs => by
      refine Vw.trans ?_ hs.vw
      refine Vw.of ?_ ?_ ?_ ?_ (fun k k3 _ _ => t3 k k3) <;> simp [va_up, tkS, t2]
    refine ⟨fun hl hn => ?_, fun a hl hsm => ?_⟩
    · obtain ⟨S2, p1, p2, p3⟩ := pickE hl
      rw [hn, if_neg (show ¬ (0 : Int32) ≤ enc none by decide)] at p3
      exact ⟨S2, p3, vw2 S2 p2⟩
    · obtain ⟨S2, p1, p2, p3⟩ := pickE hl
      have ha : a < N := by
        rcases (pkF_spec _ _ N 0 none).1 a hsm with z | ⟨_, z2, _⟩
        · cases z
        · omega
      rw [hsm, if_pos (show (0 : Int32) ≤ enc (some a) from nI_pos' (by omega)), md_w19, Option.bind_some, md_o, Option.bind_some, show enc (some a) = nI a from rfl, ← nI_0] at p3
      have hR0 : RepW (va_up S2.1 19 (nI 0), S2.2) ((0, fun _ => a, fun _ => 0, fun _ => 0, fun _ => 0) : WS) N := ⟨by simp [va_up], by show (0 : Nat) ≤ 20; omega, fun e he => absurd he (Nat.not_lt_zero _), fun e he => absurd he (Nat.not_lt_zero _)⟩
      obtain ⟨S3, q1, q2, q3, q4, q5, q6⟩ := md_add h m hR0 (show (0 : Nat) < 20 by omega) ha (d := 0) (p := 0) (D := 0) (Nat.zero_le _) (-1) (-1) (fun hz => absurd hz (Nat.lt_irrefl _))
      rw [q1, Option.bind_some] at p3
      have hw : wadd ((0, fun _ => a, fun _ => 0, fun _ => 0, fun _ => 0) : WS) a 0 0 0 = w1S a := by
        unfold wadd w1S
        have : ∀ (b c : Nat), va_up (fun _ => b) c b = fun _ : Nat => b := fun b c => funext fun j => by unfold va_up; split <;> rfl
        simp only [this]
      rw [hw] at q5
      -- the tables as they stand at the start of resolving
      have hS3 : Sd (va_up (tkS S).1 17 (-1), S.2) S3 := by
        refine Sd.trans ?_ q2
        refine ⟨fun k k1 k2 k3 k4 k5 => ?_, fun k k1 k2 k3 k4 k5 k6 k7 => ?_, fun e he => ?_⟩
        · show va_up S2.1 19 (nI 0) k = _
          rw [va_up_ne _ _ k2, p2.1 k k3 k4 k5]
          show va_up S1.1 17 (-1) k = va_up (tkS S).1 17 (-1) k
          unfold va_up tkS
          split
          · rfl
          · rw [t2]; simp [va_up, k1]
        · show S2.2 k = _
          rw [p2.2 k k6 k7]; exact t3 k k1
        · show S2.2 20 e = _ ∧ S2.2 21 e = _ ∧ S2.2 22 e = _
          rw [p2.2 20 (by decide) (by decide), p2.2 21 (by decide) (by decide), p2.2 22 (by decide) (by decide)]
          exact ⟨by rw [t3 20 (by decide)], by rw [t3 21 (by decide)], by rw [t3 22 (by decide)]⟩
      have hTab : TabV (va_up (tkS S).1 17 (-1), S.2) N := ⟨hT.1, by simp [va_up, tkS, hT.2.1], hT.2.2⟩
      have hWok : WokP (va_up (tkS S).1 17 (-1), S.2) N (w1S a) := ⟨⟨fun e e' he he' _ => by have h1 : e < 1 := he; have h2 : e' < 1 := he'; omega, fun e he he0 => by have h1 : e < 1 := he; omega⟩, fun e he => ⟨ha, Nat.zero_le _⟩, fun e he he0 => by have h1 : e < 1 := he; omega, by show 1 ≤ N; omega⟩
      have hreq : reS (va_up (tkS S).1 17 (-1), S.2) N 21 (w1S a) 0 = reS S N 21 (w1S a) 0 := reS_2 _ 21 _ 0
      have main := md_res_76 h m hTab FU 0 S3 (w1S a) hS3 q5 hWok (Nat.zero_le _) (FU_big (by omega))
      rw [Nat.sub_zero, hreq, ← show (20 : Int32) = nI (20 + 0) from rfl, ← p3] at main
      refine ⟨fun c k hc => ?_, fun W' hW' => ?_⟩
      · rcases main with ⟨c', k', z1, z2, S', z3, z4⟩ | ⟨W', z1, _⟩
        · rw [hc] at z1
          cases z1
          refine ⟨z2, _, z3, ?_⟩
          refine ⟨⟨?_, ?_, ?_, ?_⟩, fun k k1 k2 k3 k4 k5 k6 k7 => z4.2.1 k k1 k2 k3 k4 k5 k6 k7, z4.2.2⟩
          · show va_up S'.1 17 (nI k) 0 = va_up (tkS S).1 17 (nI k) 0
            rw [va_up_ne _ _ (by decide), va_up_ne _ _ (by decide), z4.1 0 (by decide) (by decide) (by decide) (by decide) (by decide)]
            simp [va_up]
          · show va_up S'.1 17 (nI k) 4 = va_up (tkS S).1 17 (nI k) 4
            rw [va_up_ne _ _ (by decide), va_up_ne _ _ (by decide), z4.1 4 (by decide) (by decide) (by decide) (by decide) (by decide)]
            simp [va_up]
          · show va_up S'.1 17 (nI k) 17 = va_up (tkS S).1 17 (nI k) 17
            rw [va_up_self, va_up_self]
          · show va_up S'.1 17 (nI k) 18 = va_up (tkS S).1 17 (nI k) 18
            rw [va_up_ne _ _ (by decide), va_up_ne _ _ (by decide), z4.1 18 (by decide) (by decide) (by decide) (by decide) (by decide)]
            simp [va_up]
        · rw [hc] at z1; cases z1
      · rcases main with ⟨c', k', z1, _⟩ | ⟨W'', z1, z2, z3, S', z4, z5, z6⟩
        · rw [hW'] at z1; cases z1
        · rw [hW'] at z1
          cases z1
          exact ⟨z2, z3, S', z4, z5, z6⟩
end MDS
