/-- artifact i has the name that stands in the first b characters of t -/
def HasNm (S : MS) (i b : Nat) : Prop := S.2 7 i = nI b ∧ ∀ k, k < b → S.2 6 (i * 21 + k) = S.2 3 k
def tl (S : MS) (i : Nat) : Nat := (S.2 5 i).toNatClampNeg
def tc (S : MS) (i : Nat) : Nat := (S.2 7 i).toNatClampNeg
/-- how long artifact i's version is -/
def vl (S : MS) (i : Nat) : Nat := tl S i - (tc S i + 1)
/-- artifact i's text is a name, a colon, a version -/
def ArtV (S : MS) (i : Nat) : Prop := ArtT S i (tl S i) (tc S i) ∧ NmP (fun j => S.2 6 (i * 21 + j)) 0 (tc S i) ∧ VrP (fun j => S.2 6 (i * 21 + j)) (tc S i + 1) (tl S i)
theorem ArtV.ver {S : MS} {i : Nat} (h : ArtV S i) : VerP (avr S i (tc S i)) (vl S i) := by
  have := verP_of h.2.2
  exact this
theorem tl_sc {S S' : MS} (hs : Sc S S') (i : Nat) : tl S' i = tl S i := by unfold tl; rw [hs.2 5 (by decide) (by decide)]
theorem tc_sc {S S' : MS} (hs : Sc S S') (i : Nat) : tc S' i = tc S i := by unfold tc; rw [hs.2 7 (by decide) (by decide)]
theorem vl_sc {S S' : MS} (hs : Sc S S') (i : Nat) : vl S' i = vl S i := by unfold vl; rw [tl_sc hs, tc_sc hs]
theorem ArtV.sc {S S' : MS} {i : Nat} (h : ArtV S i) (hs : Sc S S') : ArtV S' i := by
  unfold ArtV
  rw [tl_sc hs, tc_sc hs, hs.2 6 (by decide) (by decide)]
  exact ⟨h.1.sc hs, h.2⟩
/-- one version above another -/
noncomputable def abP (S : MS) (x y : Nat) : Prop := 0 < vord (avr S x (tc S x)) (vl S x) (avr S y (tc S y)) (vl S y)
/-- the pick may take artifact i: c is the colon's place, n the length of the text t -/
def okP (S : MS) (c n i : Nat) : Prop := S.2 8 i = 0 ∧ HasNm S i c ∧ HoldsP (S.2 3) (c + 1) n (avr S i (tc S i)) (vl S i)
/-- the pick among n artifacts from x on, b being the best before -/
noncomputable def pkF (ok : Nat → Prop) (ab : Nat → Nat → Prop) : Nat → Nat → Option Nat → Option Nat
  | 0, _, b => b
  | n + 1, x, b => pkF ok ab n (x + 1) (@ite _ (ok x ∧ ∀ y, b = some y → ab x y) (Classical.propDecidable _) (some x) b)
def enc (b : Option Nat) : Int32 := match b with
  | none => -1
  | some y => nI y
theorem HasNm.sc {S S' : MS} (hs : Sc S S') (i b : Nat) : HasNm S' i b ↔ HasNm S i b := by
  unfold HasNm
  rw [hs.2 7 (by decide) (by decide), hs.2 6 (by decide) (by decide), hs.2 3 (by decide) (by decide)]
theorem okP_sc {S S' : MS} (hs : Sc S S') (c n i : Nat) : okP S' c n i ↔ okP S c n i := by
  unfold okP
  rw [HasNm.sc hs, hs.2 8 (by decide) (by decide), hs.2 3 (by decide) (by decide), tc_sc hs, vl_sc hs, avr_sc hs]
theorem abP_sc {S S' : MS} (hs : Sc S S') (x y : Nat) : abP S' x y ↔ abP S x y := by
  unfold abP
  rw [tc_sc hs, tc_sc hs, vl_sc hs, vl_sc hs, avr_sc hs, avr_sc hs]
section MDL
variable (h : hp_H) (m : Nat)
theorem md_hasName_L {S : MS} {i b : Nat} (hi : i < 20) (hb : b ≤ 20) : ∀ (n k : Nat), k ≤ b → b - k < n → (∀ j, j < k → S.2 6 (i * 21 + j) = S.2 3 j) → f_MD_hasName_L14 n m (nI i) (nI b) (nI k) (md_set h m S) = some (zi (∀ j, j < b → S.2 6 (i * 21 + j) = S.2 3 j), md_set h m S) := by
  intro n
  induction n with
  | zero => intro k _ hn; omega
  | succ n ih =>
    intro k hk hn hall
    simp only [f_MD_hasName_L14]
    by_cases hlt : k < b
    · rw [if_neg (nI_ge hlt (by omega)), show nI i * 21 + nI k = nI (i * 21 + k) by rw [show (21 : Int32) = nI 21 from rfl, pk_mul, nI_add]]
      simp only [md_r6, md_a6, md_r3, md_a3, Option.bind_some, hp_ix_nI (show i * 21 + k < 420 by omega) (by decide), hp_ix_nI (show k < 40 by omega) (by decide), Option.map_some]
      by_cases hc : S.2 6 (i * 21 + k) = S.2 3 k
      · rw [if_pos hc, nI_1, ih (k + 1) (by omega) (by omega) (fun j hj => ?_)]
        by_cases hjk : j = k
        · subst hjk; exact hc
        · exact hall j (by omega)
      · rw [if_neg hc, zi_0 (fun z => hc (z k hlt))]
    · have hkN : k = b := by omega
      subst hkN
      rw [if_pos (nI_le (Nat.le_refl _) (by omega)), zi_1 hall]
theorem md_hasName {S : MS} {i b : Nat} (hA : ArtT S i (tl S i) (tc S i)) (hb : b ≤ 40) : f_MD_hasName (md_set h m S) m (nI i) (nI b) = some (zi (HasNm S i b), md_set h m S) := by
  obtain ⟨hi, h5, h7, hc, hl⟩ := hA
  unfold f_MD_hasName
  simp only [md_r7, md_a7, Option.bind_some, hp_ix_nI hi (by decide), Option.map_some]
  by_cases h1 : S.2 7 i = nI b
  · have hbb : b ≤ 20 := by
      have := h1.symm.trans h7
      rw [nI_eq (by omega) (by omega)] at this
      omega
    rw [if_pos h1, show (0 : Int32) = nI 0 from rfl, md_hasName_L h m hi hbb FU 0 (Nat.zero_le _) (FU_big (by omega)) (fun j hj => absurd hj (by omega))]
    refine congrArg some (Prod.ext (zi_congr ?_) rfl)
    exact ⟨fun z => ⟨h1, z⟩, fun z => z.2⟩
  · rw [if_neg h1, zi_0 (fun z => h1 z.1)]
theorem md_isAbove_L {x len co lb : Nat} {w : Nat → Int32} (hlb : lb ≤ 40) : ∀ (n k : Nat) (S : MS), ArtT S x len co → VerP (avr S x co) (len - (co + 1)) → VerP w lb → S.1 25 = nI lb → S.1 27 = nI lb → k ≤ lb → lb - k < n → (∀ j, j < k → S.2 26 j = w j) → (∀ j, j < lb → S.2 24 j = w j) → ∃ S' : MS, f_MD_isAbove_L15 n m (nI x) (nI k) (md_set h m S) = some (zi (0 < vord (avr S x co) (len - (co + 1)) w lb), md_set h m S') ∧ Sc S S' := by
  intro n
  induction n with
  | zero => intro k S _ _ _ _ _ _ hn; omega
  | succ n ih =>
    intro k S hA hv hw h25 h27 hk hn h26 h24
    simp only [f_MD_isAbove_L15, md_i25, Option.bind_some, h25]
    by_cases hlt : k < lb
    · rw [if_neg (nI_ge hlt (by omega))]
      simp only [md_r26, md_r24, md_a24, md_s26, Option.bind_some, hp_ix_nI (show k < 40 by omega) (by decide), Option.map_some]
      rw [nI_1]
      have hs : Sc S (S.1, va_up S.2 26 (va_up (S.2 26) k (S.2 24 k))) := ⟨fun _ _ _ _ => rfl, fun j _ hj => va_up_ne _ _ hj⟩
      obtain ⟨S', e1, e2⟩ := ih (k + 1) _ (hA.sc hs) (by rw [avr_sc hs]; exact hv) hw h25 h27 (by omega) (by omega) (fun j hj => by
        by_cases hjk : j = k
        · subst hjk; simp [va_up, h24 j hlt]
        · simp [va_up, hjk, h26 j (by omega)]) (fun j hj => by simp [va_up, h24 j hj])
      rw [avr_sc hs] at e1
      exact ⟨S', e1, hs.trans e2⟩
    · have hkN : k = lb := by omega
      subst hkN
      rw [if_pos (nI_le (Nat.le_refl _) (by omega))]
      simp only [md_o, Option.bind_some]
      obtain ⟨S1, e1, e2, e3, e4⟩ := md_firstIs h m hA
      rw [e1]
      simp only [md_o, Option.bind_some]
      have v24 : ∀ j, j < len - (co + 1) → avr S x co j = S1.2 24 j := fun j hj => by rw [e4 j hj]; rfl
      have v26 : ∀ j, j < k → w j = S1.2 26 j := fun j hj => by rw [e3 26 (by decide), h26 j hj]
      obtain ⟨e', o1⟩ := md_order h m S1 (verP_congr v24 hv) (verP_congr v26 hw) (by rw [e2, va_up_self]) (by rw [e2, va_up_ne _ _ (by decide)]; exact h27)
      rw [o1, ← vord_congr v24 v26]
      simp only [Option.bind_some]
      refine ⟨_, ?_, show Sc S (va_up S1.1 28 e', S1.2) from ⟨fun j j1 j2 j3 => ?_, fun j j1 j2 => e3 j j1⟩⟩
      · rcases vord_r (avr S x co) (len - (co + 1)) w k with ho | ho | ho
        · rw [ho, if_pos (by decide), zi_0 (by decide)]
        · rw [ho, if_pos (by decide), zi_0 (by decide)]
        · rw [ho, if_neg (by decide), zi_1 (by decide)]
      · show va_up S1.1 28 e' j = _
        rw [va_up_ne _ _ j3, e2, va_up_ne _ _ j1]
theorem md_isAbove {S : MS} {x y : Nat} (hx : ArtV S x) (hy : ArtV S y) : ∃ S' : MS, f_MD_isAbove (md_set h m S) m (nI x) (nI y) = some (zi (abP S x y), md_set h m S') ∧ Sc S S' := by
  unfold f_MD_isAbove
  obtain ⟨S1, e1, e2, e3, e4⟩ := md_firstIs h m hy.1
  simp only [md_o, Option.bind_some, e1, md_i25, md_w27]
  have hs1 : Sc S (va_up S1.1 27 (S1.1 25), S1.2) := ⟨fun j j1 j2 j3 => by
    show va_up S1.1 27 _ j = _
    rw [va_up_ne _ _ j2, e2, va_up_ne _ _ j1], fun j j1 j2 => e3 j j1⟩
  have hvl : vl S y ≤ 40 := by have := hy.1.2.2.2.2; unfold vl; omega
  have h25 : S1.1 25 = nI (vl S y) := by rw [e2, va_up_self]; rfl
  have w24 : ∀ j, j < vl S y → S1.2 24 j = avr S y (tc S y) j := fun j hj => e4 j hj
  obtain ⟨S', f1, f2⟩ := md_isAbove_L h m (x := x) (len := tl S x) (co := tc S x) (lb := vl S y) (w := avr S y (tc S y)) hvl FU 0 (va_up S1.1 27 (S1.1 25), S1.2) (hx.1.sc hs1) (by rw [avr_sc hs1]; exact hx.ver) hy.ver (by simp [va_up, h25]) (by simp [va_up, h25]) (Nat.zero_le _) (FU_big (by omega)) (fun j hj => absurd hj (by omega)) w24
  rw [avr_sc hs1] at f1
  exact ⟨S', f1, hs1.trans f2⟩
theorem md_pick_L {S0 : MS} {c n N : Nat} (hn : n ≤ 40) (hc : c + 1 ≤ n) (h2 : S0.1 2 = nI n) (h4 : S0.1 4 = nI N) (hN : N ≤ 20) (hr : RgP (S0.2 3) (c + 1) n) (hV : ∀ i, i < N → ArtV S0 i) : ∀ (f x : Nat) (b : Option Nat) (S : MS), Sc S0 S → x ≤ N → N - x < f → (∀ y, b = some y → y < N) → ∃ S' : MS, f_MD_pick_L9 f m (nI c) (enc b) (nI x) (md_set h m S) = some (enc (pkF (okP S0 c n) (abP S0) (N - x) x b), md_set h m S') ∧ Sc S0 S' := by
  intro f
  induction f with
  | zero => intro x b S _ _ hf; omega
  | succ f ih =>
    intro x b S hs hx hf hb
    simp only [f_MD_pick_L9, md_i4, Option.bind_some, show S.1 4 = nI N by rw [hs.1 4 (by decide) (by decide) (by decide)]; exact h4]
    by_cases hlt : x < N
    · rw [if_neg (nI_ge hlt (by omega)), show N - x = (N - (x + 1)) + 1 by omega, pkF]
      simp only [md_r8, md_a8, Option.bind_some, hp_ix_nI (show x < 20 by omega) (by decide), Option.map_some]
      have hvx : ArtV S x := (hV x hlt).sc hs
      have skip : ¬ (okP S0 c n x ∧ ∀ y, b = some y → abP S0 x y) → ∀ S1 : MS, Sc S0 S1 → ∃ S' : MS, f_MD_pick_L9 f m (nI c) (enc b) (nI x + 1) (md_set h m S1) = some (enc (pkF (okP S0 c n) (abP S0) (N - (x + 1)) (x + 1) (@ite _ (okP S0 c n x ∧ ∀ y, b = some y → abP S0 x y) (Classical.propDecidable _) (some x) b)), md_set h m S') ∧ Sc S0 S' := by
        intro hno S1 hs1
        rw [if_neg hno, nI_1]
        exact ih (x + 1) b S1 hs1 (by omega) (by omega) hb
      have take : (okP S0 c n x ∧ ∀ y, b = some y → abP S0 x y) → ∀ S1 : MS, Sc S0 S1 → ∃ S' : MS, f_MD_pick_L9 f m (nI c) (nI x) (nI x + 1) (md_set h m S1) = some (enc (pkF (okP S0 c n) (abP S0) (N - (x + 1)) (x + 1) (@ite _ (okP S0 c n x ∧ ∀ y, b = some y → abP S0 x y) (Classical.propDecidable _) (some x) b)), md_set h m S') ∧ Sc S0 S' := by
        intro hyes S1 hs1
        rw [if_pos hyes, nI_1]
        exact ih (x + 1) (some x) S1 hs1 (by omega) (by omega) (fun y hy => by cases hy; exact hlt)
      have e8 := hs.2 8 (by decide) (by decide)
      by_cases hret : S.2 8 x = 0
      · rw [if_pos hret]
        simp only [md_o, Option.bind_some]
        rw [md_hasName h m hvx.1 (by omega)]
        simp only [md_o, Option.bind_some]
        by_cases hnm : HasNm S x c
        · rw [if_neg (fun z => zi_eq0.mp z hnm), show nI c + 1 = nI (c + 1) from nI_1 c]
          obtain ⟨S1, e1, e2⟩ := md_holds h m hvx.1 hvx.ver hn hc (S := S) (by rw [hs.1 2 (by decide) (by decide) (by decide)]; exact h2) (by rw [hs.2 3 (by decide) (by decide)]; exact hr)
          rw [e1]
          simp only [md_o, Option.bind_some]
          have hs1 := hs.trans e2
          by_cases hho : HoldsP (S.2 3) (c + 1) n (avr S x (tc S x)) (tl S x - (tc S x + 1))
          · rw [if_neg (fun z => zi_eq0.mp z hho)]
            have hok : okP S0 c n x := (okP_sc hs c n x).mp ⟨hret, hnm, hho⟩
            cases b with
            | none =>
              rw [if_pos (show enc none < 0 by decide)]
              exact take ⟨hok, fun y hy => by cases hy⟩ S1 hs1
            | some y =>
              have hy : y < N := hb y rfl
              rw [if_neg (show ¬ enc (some y) < 0 from nI_pos (by omega))]
              obtain ⟨S2, f1, f2⟩ := md_isAbove h m (S := S1) (x := x) (y := y) ((hV x hlt).sc hs1) ((hV y hy).sc hs1)
              simp only [show enc (some y) = nI y from rfl]
              rw [f1]
              simp only [Option.bind_some]
              have hs2 := hs1.trans f2
              by_cases hab : abP S1 x y
              · rw [if_neg (fun z => zi_eq0.mp z hab)]
                exact take ⟨hok, fun y' hy' => by cases hy'; exact (abP_sc hs1 x y).mp hab⟩ S2 hs2
              · rw [if_pos (zi_eq0.mpr hab)]
                exact skip (fun z => hab ((abP_sc hs1 x y).mpr (z.2 y rfl))) S2 hs2
          · rw [if_pos (zi_eq0.mpr hho)]
            exact skip (fun z => hho ((okP_sc hs c n x).mpr z.1).2.2) S1 hs1
        · rw [if_pos (zi_eq0.mpr hnm)]
          exact skip (fun z => hnm ((okP_sc hs c n x).mpr z.1).2.1) S hs
      · rw [if_neg hret]
        exact skip (fun z => hret ((okP_sc hs c n x).mpr z.1).1) S hs
    · have hkN : x = N := by omega
      subst hkN
      rw [if_pos (nI_le (Nat.le_refl _) (by omega)), Nat.sub_self, pkF]
      exact ⟨S, rfl, hs⟩
theorem md_pick_a {S : MS} {n : Nat} (hn : n ≤ 40) (h2 : S.1 2 = nI n) : f_MD_pick (md_set h m S) m = f_MD_pick_L9 FU m (nI (fx (S.2 3) 58 0 n)) (-1) 0 (md_set h m S) := by
  unfold f_MD_pick
  rw [md_o, Option.bind_some, md_colonAt h m S hn h2, Option.bind_some]
theorem md_pick_b {S : MS} {c n N : Nat} (hn : n ≤ 40) (hc : c + 1 ≤ n) (h2 : S.1 2 = nI n) (h4 : S.1 4 = nI N) (hN : N ≤ 20) (hr : RgP (S.2 3) (c + 1) n) (hV : ∀ i, i < N → ArtV S i) (F : Nat) (hF : N < F) : ∃ S' : MS, f_MD_pick_L9 F m (nI c) (-1) 0 (md_set h m S) = some (enc (pkF (okP S c n) (abP S) N 0 none), md_set h m S') ∧ Sc S S' := by
  have key := md_pick_L h m hn hc h2 h4 hN hr hV F 0 none S Sc.rfl' (Nat.zero_le _) hF (fun y hy => by cases hy)
  exact key
theorem md_pick {S : MS} {n N : Nat} (hn : n ≤ 40) (hc : fx (S.2 3) 58 0 n + 1 ≤ n) (h2 : S.1 2 = nI n) (h4 : S.1 4 = nI N) (hN : N ≤ 20) (hr : RgP (S.2 3) (fx (S.2 3) 58 0 n + 1) n) (hV : ∀ i, i < N → ArtV S i) : ∃ S' : MS, f_MD_pick (md_set h m S) m = some (enc (pkF (okP S (fx (S.2 3) 58 0 n) n) (abP S) N 0 none), md_set h m S') ∧ Sc S S' := by
  obtain ⟨S', e1, e2⟩ := md_pick_b h m hn hc h2 h4 hN hr hV FU (FU_big (by omega))
  exact ⟨S', (md_pick_a h m hn h2).trans e1, e2⟩
end MDL
