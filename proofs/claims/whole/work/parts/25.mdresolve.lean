def ndc (S : MS) (i : Nat) : Nat := (S.2 10 i).toNatClampNeg
noncomputable def rkS (S : MS) (N : Nat) : Nat → WS → Nat → Nat → (Int32 × Nat) ⊕ WS
  | 0, W, _, _ => .inr W
  | n + 1, W, e, k => if (ndS S N W e (W.2.1 e * 6 + k)).1 < 0 then .inl ((ndS S N W e (W.2.1 e * 6 + k)).1, k) else rkS S N n (ndS S N W e (W.2.1 e * 6 + k)).2 e (k + 1)
noncomputable def reS (S : MS) (N : Nat) : Nat → WS → Nat → (Int32 × Nat) ⊕ WS
  | 0, W, _ => .inr W
  | f + 1, W, e => if W.1 ≤ e then .inr W else match rkS S N (ndc S (W.2.1 e)) W e 0 with
    | .inl x => .inl (x.1, 8 * W.2.1 e + x.2)
    | .inr W' => reS S N f W' (e + 1)
/-- the tables of artifacts and dependencies are in order -/
def TabV (S : MS) (N : Nat) : Prop := N ≤ 20 ∧ S.1 4 = nI N ∧ ∀ i, i < N → ArtV S i ∧ (S.2 8 i = 0 ∨ S.2 8 i = 1) ∧ S.2 10 i = nI (ndc S i) ∧ ndc S i ≤ 6 ∧ ∀ k, k < ndc S i → DepV S (i * 6 + k)
/-- the working entries by themselves -/
def WokP (S : MS) (N : Nat) (W : WS) : Prop := Win S W ∧ (∀ e, e < W.1 → W.2.1 e < N ∧ W.2.2.1 e ≤ e) ∧ (∀ e, e < W.1 → 0 < e → W.2.2.2.1 e < e) ∧ W.1 ≤ N
theorem ndS_spec {S : MS} {N : Nat} {W : WS} {e D : Nat} (hT : TabV S N) (hW : WokP S N W) (he : e < W.1) (hD : DepV S D) : WokP S N (ndS S N W e D).2 ∧ W.1 ≤ (ndS S N W e D).2.1 ∧ (∀ j, j < W.1 → (ndS S N W e D).2.2.1 j = W.2.1 j) ∧ ((ndS S N W e D).1 = 0 ∨ (ndS S N W e D).1 = -4 ∨ (ndS S N W e D).1 = -5) := by
  unfold ndS
  by_cases h1 : brd S (dtx S D) (dq S D) W 20 e ∨ (S.2 11 D ≠ 0 ∧ W.2.2.1 e ≠ 0)
  · rw [if_pos h1]
    exact ⟨hW, Nat.le_refl _, fun _ _ => rfl, Or.inl rfl⟩
  · rw [if_neg h1]
    cases hf : fsn (fun j => NmEq S (W.2.1 j) (dtx S D) (dq S D)) W.1 0 with
    | some j =>
      simp only
      split
      · exact ⟨hW, Nat.le_refl _, fun _ _ => rfl, Or.inl rfl⟩
      · exact ⟨hW, Nat.le_refl _, fun _ _ => rfl, Or.inr (Or.inr rfl)⟩
    | none =>
      simp only
      cases hp : pkF (okC S (dtx S D) (dq S D) (dl S D)) (abP S) N 0 none with
      | none => exact ⟨hW, Nat.le_refl _, fun _ _ => rfl, Or.inr (Or.inl rfl)⟩
      | some a =>
        have ha : a < N ∧ okC S (dtx S D) (dq S D) (dl S D) a := by
          rcases (pkF_spec _ _ N 0 none).1 a hp with z | ⟨_, z2, z3⟩
          · cases z
          · exact ⟨by omega, z3⟩
        have hno := (fsn_spec _ W.1 0).2 hf
        obtain ⟨⟨w1, w2⟩, w3, w4, w5⟩ := hW
        have hinj : ∀ x x', x < W.1 + 1 → x' < W.1 + 1 → va_up W.2.1 W.1 a x = va_up W.2.1 W.1 a x' → x = x' := by
          intro x x' hx hx' hxx
          by_cases hxw : x = W.1 <;> by_cases hxw' : x' = W.1
          · omega
          · rw [hxw, va_up_self, va_up_ne _ _ hxw'] at hxx
            exact absurd (hxx ▸ ha.2.2.1) (hno x' (Nat.zero_le _) (by omega))
          · rw [hxw', va_up_self, va_up_ne _ _ hxw] at hxx
            exact absurd (hxx.symm ▸ ha.2.2.1) (hno x (Nat.zero_le _) (by omega))
          · rw [va_up_ne _ _ hxw, va_up_ne _ _ hxw'] at hxx
            exact w1 x x' (by omega) (by omega) hxx
        have hran : ∀ x, x < W.1 + 1 → va_up W.2.1 W.1 a x < N := fun x hx => by
          by_cases hxw : x = W.1
          · rw [hxw, va_up_self]; exact ha.1
          · rw [va_up_ne _ _ hxw]; exact (w3 x (by omega)).1
        refine ⟨⟨⟨hinj, fun x hx hx0 => ?_⟩, fun x hx => ⟨hran x hx, ?_⟩, fun x hx hx0 => ?_, pig N (W.1 + 1) _ hran hinj⟩, by show W.1 ≤ W.1 + 1; omega, fun j hj => by show va_up W.2.1 W.1 a j = _; rw [va_up_ne _ _ (by omega)], Or.inl rfl⟩
        · show DepV S (va_up W.2.2.2.2 W.1 D x)
          have hx' : x < W.1 + 1 := hx
          by_cases hxw : x = W.1
          · rw [hxw, va_up_self]; exact hD
          · rw [va_up_ne _ _ hxw]; exact w2 x (by omega) hx0
        · show va_up W.2.2.1 W.1 (W.2.2.1 e + 1) x ≤ x
          have hx' : x < W.1 + 1 := hx
          by_cases hxw : x = W.1
          · rw [hxw, va_up_self]; have := (w3 e he).2; omega
          · rw [va_up_ne _ _ hxw]; exact (w3 x (by omega)).2
        · show va_up W.2.2.2.1 W.1 e x < x
          have hx' : x < W.1 + 1 := hx
          by_cases hxw : x = W.1
          · rw [hxw, va_up_self]; omega
          · rw [va_up_ne _ _ hxw]; exact w4 x (by omega) hx0
theorem brd_congr {S S' : MS} {c c' : Nat → Int32} {b : Nat} {W : WS} (hx : ∀ D, ExcD S c b D ↔ ExcD S' c' b D) : ∀ (f e : Nat), brd S c b W f e ↔ brd S' c' b W f e
  | 0, e => Iff.rfl
  | f + 1, e => by
    rw [brd, brd, hx, brd_congr hx f]
section MDR2
variable (h : hp_H) (m : Nat)
theorem md_need {S0 S : MS} {W : WS} {N e D : Nat} (hT : TabV S0 N) (hs : Sd S0 S) (hR : RepW S W N) (hW : WokP S0 N W) (he : e < W.1) (hD : DepV S0 D) : ∃ S' : MS, f_MD_need (md_set h m S) m (nI (20 + e)) (nI D) = some ((ndS S0 N W e D).1, md_set h m S') ∧ Sd S0 S' ∧ RepW S' (ndS S0 N W e D).2 N := by
  obtain ⟨⟨d1, d2, d3, ⟨d4, d5, d6⟩, d7⟩, ne, n1, n2, n3⟩ := hD
  have u := hs.2.1
  have e12 := u 12 (by decide) (by decide) (by decide) (by decide) (by decide) (by decide) (by decide)
  have e13 := u 13 (by decide) (by decide) (by decide) (by decide) (by decide) (by decide) (by decide)
  obtain ⟨S1, t1, t2, t3, t4⟩ := md_takeDep h m (S := S) (D := D) d1 d3 (by rw [e12]; exact d2)
  have hs1 : Sd S0 S1 := hs.trans ⟨fun k k2 _ _ _ _ => by rw [t2, va_up_ne _ _ k2], fun k k3 _ _ _ _ _ _ => t3 k k3, fun x _ => ⟨by rw [t3 20 (by decide)], by rw [t3 21 (by decide)], by rw [t3 22 (by decide)]⟩⟩
  have c3 : ∀ j, j < dl S0 D → S1.2 3 j = dtx S0 D j := fun j hj => by rw [t4 j hj, e13]; rfl
  have hR1 : RepW S1 W N := by
    unfold RepW
    rw [t2, va_up_ne _ _ (by decide), t3 20 (by decide), t3 21 (by decide), t3 22 (by decide), t3 23 (by decide)]
    exact hR
  have n2' : S1.1 2 = nI (dl S0 D) := by rw [t2, va_up_self]
  obtain ⟨g1, g2, g3, g4⟩ := fx_spec (dtx S0 D) 58 (dl S0 D) 0
  have hfx : fx (S1.2 3) 58 0 (dl S0 D) = dq S0 D := fx_congr (fun k _ k2 => c3 k (by omega))
  have hq1 : dq S0 D + 1 ≤ dl S0 D := by
    have : dq S0 D ≤ 0 + dl S0 D := g2
    have : dq S0 D ≠ dl S0 D := d5
    omega
  have hq8 : dq S0 D ≤ 8 := by have := d4.2.1; unfold dq; omega
  have u1 := hs1.2.1
  have hexc : ∀ D', ExcD S1 (S1.2 3) (dq S0 D) D' ↔ ExcD S0 (dtx S0 D) (dq S0 D) D' := by
    intro D'
    unfold ExcD ExcE
    rw [u1 14 (by decide) (by decide) (by decide) (by decide) (by decide) (by decide) (by decide), u1 15 (by decide) (by decide) (by decide) (by decide) (by decide) (by decide) (by decide), u1 16 (by decide) (by decide) (by decide) (by decide) (by decide) (by decide) (by decide)]
    refine ⟨fun ⟨x, x1, x2, x3⟩ => ⟨x, x1, x2, fun k hk => ?_⟩, fun ⟨x, x1, x2, x3⟩ => ⟨x, x1, x2, fun k hk => ?_⟩⟩
    · rw [← c3 k (by omega)]; exact x3 k hk
    · rw [c3 k (by omega)]; exact x3 k hk
  have hbar := md_barred h m hR1 hq8 (fun x hx hx0 => by
    obtain ⟨_, ne', a1, a2, _⟩ := hW.1.2 x hx hx0
    exact ⟨ne', a1, by rw [u1 14 (by decide) (by decide) (by decide) (by decide) (by decide) (by decide) (by decide)]; exact a2⟩) he
  rw [zi_congr (brd_congr hexc 20 e)] at hbar
  have e11 := u1 11 (by decide) (by decide) (by decide) (by decide) (by decide) (by decide) (by decide)
  have start : f_MD_need (md_set h m S) m (nI (20 + e)) (nI D) = (if zi (brd S0 (dtx S0 D) (dq S0 D) W 20 e) = 0 then (if S0.2 11 D = 0 then f_MD_need_L43 FU m (nI (20 + e)) (nI D) (nI (dq S0 D)) 20 (md_set h m S1) else if S1.2 21 (20 + e) ≤ 0 then f_MD_need_L43 FU m (nI (20 + e)) (nI D) (nI (dq S0 D)) 20 (md_set h m S1) else some (0, md_set h m S1)) else some (0, md_set h m S1)) := by
    unfold f_MD_need
    have hw20 := hR.2.1
    rw [md_o, Option.bind_some, t1, Option.bind_some, md_o, Option.bind_some, md_colonAt h m S1 d3 n2', hfx, Option.bind_some, md_o, Option.bind_some, hbar, Option.bind_some]
    split
    · rw [md_r11, Option.bind_some, md_a11, hp_ix_nI d1 (by decide), Option.map_some, Option.bind_some, e11]
      split
      · rfl
      · rw [md_r21, Option.bind_some, md_a21, hp_ix_nI (show 20 + e < 40 by omega) (by decide), Option.map_some, Option.bind_some]
    · rfl
  have hdeep : S1.2 21 (20 + e) = nI (W.2.2.1 e) := (hR1.2.2.1 e he).2.2.1
  have hde := (hW.2.1 e he).2
  have hw20 := hR.2.1
  unfold ndS
  by_cases hb : brd S0 (dtx S0 D) (dq S0 D) W 20 e ∨ (S0.2 11 D ≠ 0 ∧ W.2.2.1 e ≠ 0)
  · rw [if_pos hb, start]
    refine ⟨S1, ?_, hs1, hR1⟩
    rcases hb with hb | ⟨hb1, hb2⟩
    · rw [if_neg (fun z => zi_eq0.mp z hb)]
    · by_cases hbb : brd S0 (dtx S0 D) (dq S0 D) W 20 e
      · rw [if_neg (fun z => zi_eq0.mp z hbb)]
      · rw [if_pos (zi_eq0.mpr hbb), if_neg hb1, hdeep, if_neg (nI_nle (by omega) (by omega))]
  · rw [if_neg hb]
    have go : f_MD_need (md_set h m S) m (nI (20 + e)) (nI D) = f_MD_need_L43 FU m (nI (20 + e)) (nI D) (nI (dq S0 D)) (nI (20 + 0)) (md_set h m S1) := by
      rw [start, if_pos (zi_eq0.mpr (fun z => hb (Or.inl z)))]
      by_cases h11 : S0.2 11 D = 0
      · rw [if_pos h11]; rfl
      · rw [if_neg h11]
        have hz : W.2.2.1 e = 0 := by
          by_cases z : W.2.2.1 e = 0
          · exact z
          · exact absurd (Or.inr ⟨h11, z⟩) hb
        rw [hdeep, hz, if_pos (show nI 0 ≤ (0 : Int32) by decide)]; rfl
    have key := md_need_43 h m (S0 := S0) (W := W) (N := N) (e := e) (D := D) (q := dq S0 D) (n := dl S0 D) (c := dtx S0 D) hT.1 d3 hq1 rfl d6 (fun i hi => (hT.2.2 i hi).1) hT.2.1 he d1 hW.1.1 FU 0 S1 hs1 hR1 n2' c3 (Nat.zero_le _) (FU_big (by omega)) (fun j hj => absurd hj (by omega))
    rw [← go, Nat.sub_zero] at key
    exact key
theorem md_res_90 {S0 : MS} {N e a : Nat} (hT : TabV S0 N) (k76 : Nat → Int32 → hp_H → Option (Int32 × hp_H)) : ∀ (f k : Nat) (S : MS) (W : WS), Sd S0 S → RepW S W N → WokP S0 N W → e < W.1 → W.2.1 e = a → k ≤ ndc S0 a → ndc S0 a - k < f →
    (∃ c kk, rkS S0 N (ndc S0 a - k) W e k = .inl (c, kk) ∧ (c = -4 ∨ c = -5) ∧ kk < 6 ∧ ∃ S', f_MD_resolve_L90 k76 f m (nI (20 + e)) (nI k) (md_set h m S) = some (c, md_set h m (va_up S'.1 17 (nI (8 * a + kk)), S'.2)) ∧ Sd S0 S') ∨
    (∃ W', rkS S0 N (ndc S0 a - k) W e k = .inr W' ∧ WokP S0 N W' ∧ W.1 ≤ W'.1 ∧ ∃ S', f_MD_resolve_L90 k76 f m (nI (20 + e)) (nI k) (md_set h m S) = k76 m (nI (20 + (e + 1))) (md_set h m S') ∧ Sd S0 S' ∧ RepW S' W' N) := by
  intro f
  induction f with
  | zero => intro k S W _ _ _ _ _ _ hf; omega
  | succ f ih =>
    intro k S W hs hR hW he ha hk hf
    have haN : a < N := by rw [← ha]; exact (hW.2.1 e he).1
    obtain ⟨t1, t2, t3, t4, t5⟩ := hT.2.2 a haN
    have hw20 := hR.2.1
    have q1 := (hR.2.2.1 e he).1
    rw [ha] at q1
    have e10 := hs.2.1 10 (by decide) (by decide) (by decide) (by decide) (by decide) (by decide) (by decide)
    have hN := hT.1
    simp only [f_MD_resolve_L90, md_r10, md_r20, md_a20, md_a10, Option.bind_some, hp_ix_nI (show 20 + e < 40 by omega) (by decide), Option.map_some, q1, hp_ix_nI (show a < 20 by omega) (by decide), e10, t3]
    by_cases hlt : k < ndc S0 a
    · rw [if_neg (nI_ge hlt (by omega)), show ndc S0 a - k = (ndc S0 a - (k + 1)) + 1 by omega, rkS, ha, show nI a * 6 + nI k = nI (a * 6 + k) by rw [show (6 : Int32) = nI 6 from rfl, pk_mul, nI_add]]
      simp only [md_o, Option.bind_some]
      have hDv := t5 k hlt
      obtain ⟨S1, r1, r2, r3⟩ := md_need h m hT hs hR hW he hDv
      rw [r1]
      obtain ⟨p1, p2, p3, p4⟩ := ndS_spec hT hW he hDv
      simp only [Option.bind_some]
      generalize ndS S0 N W e (a * 6 + k) = r at r1 r3 p1 p2 p3 p4 ⊢
      have hneg : ∀ c : Int32, (c = -4 ∨ c = -5) → r.1 = c → (∃ c kk, (if r.1 < 0 then (.inl (r.1, k) : (Int32 × Nat) ⊕ WS) else rkS S0 N (ndc S0 a - (k + 1)) r.2 e (k + 1)) = .inl (c, kk) ∧ (c = -4 ∨ c = -5) ∧ kk < 6 ∧ ∃ S', (if 0 ≤ r.1 then f_MD_resolve_L90 k76 f m (nI (20 + e)) (nI k + 1) (md_set h m S1) else (hp_fR (md_set h m S1) (some m) 7 20).bind fun x91 => (hp_aI (md_set h m S1) x91 0 (nI (20 + e))).bind fun x93 => (hp_s (md_set h m S1) (some m) 7 17 (.int (((8 : Int32) * x93) + nI k))).bind fun h95 => some (r.1, h95)) = some (c, md_set h m (va_up S'.1 17 (nI (8 * a + kk)), S'.2)) ∧ Sd S0 S') := by
        intro c hc hrc
        have hlt0 : c < 0 := by rcases hc with rfl | rfl <;> decide
        have hnle : ¬ (0 : Int32) ≤ c := by rcases hc with rfl | rfl <;> decide
        have q2 := (r3.2.2.1 e (Nat.lt_of_lt_of_le he p2)).1
        rw [p3 e he, ha] at q2
        rw [hrc, if_pos hlt0, if_neg hnle]
        refine ⟨c, k, rfl, hc, by omega, S1, ?_, r2⟩
        simp only [md_r20, md_a20, md_w17, Option.bind_some, hp_ix_nI (show 20 + e < 40 by omega) (by decide), Option.map_some, q2]
        rw [show (8 : Int32) * nI a + nI k = nI (8 * a + k) by rw [show (8 : Int32) = nI 8 from rfl, pk_mul, nI_add]]
      rcases p4 with hr | hr | hr
      · rw [hr, if_neg (by decide), if_pos (by decide), nI_1]
        rcases ih (k + 1) S1 r.2 r2 r3 p1 (by omega) (by rw [p3 e he]; exact ha) (by omega) (by omega) with z | ⟨W', z1, z2, z3, z4⟩
        · exact Or.inl z
        · exact Or.inr ⟨W', z1, z2, by omega, z4⟩
      · exact Or.inl (hneg (-4) (Or.inl rfl) hr)
      · exact Or.inl (hneg (-5) (Or.inr rfl) hr)
    · have hkN : k = ndc S0 a := by omega
      rw [if_pos (nI_le (by omega) (by omega)), show ndc S0 a - k = 0 by omega, rkS]
      exact Or.inr ⟨W, rfl, hW, Nat.le_refl _, S, by rw [nI_1]; rfl, hs, hR⟩
end MDR2
