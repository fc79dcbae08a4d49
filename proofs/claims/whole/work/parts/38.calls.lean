/-! ===== one call on both sides ===== -/
def MdC (g : hp_H) (m : Nat) (S : MS) : Prop := ∀ j, j ≤ 20 → g.1 (m + j) = some (md_cell m S j)
/-- class and reference stand alike in the heap h -/
def Inv (x : Nat) (h : hp_H) : Prop := ∃ (g : hp_H) (c : Nat → Int32) (A : Nat → Option Nat) (s d : Nat) (E : Nat → ES) (S : MS) (ga gd : Nat → Nat) (N R len : Nat), h = cb g x (nI len) 0 (nI N) (S.1 17) c A s d E ∧ (x + 35 ≤ g.2 ∧ s ≤ 1 ∧ d ≤ 1 ∧ s ≠ d) ∧ MdC g (x + 14) S ∧ LnC c S len ∧ TbC (x + 35) g A S ga gd N ∧ RsC (E s) S ga N R
/-- what one call of both does -/
def CallOk (x : Nat) (F G : hp_H → Nat → Option (Int32 × hp_H)) (h : hp_H) : Prop := ∃ r h1 h2, F h x = some (r, h1) ∧ hp_o h1 (some (x + 14)) 7 = some (x + 14) ∧ G h1 (x + 14) = some (r, h2) ∧ Inv x h2
theorem md_self {h : hp_H} {m : Nat} {S : MS} (hm : MdC h m S) : md_set h m S = h := by
  refine Prod.ext (funext fun q => ?_) rfl
  show (if m ≤ q ∧ q ≤ m + 20 then some (md_cell m S (q - m)) else h.1 q) = h.1 q
  by_cases hq : m ≤ q ∧ q ≤ m + 20
  · rw [if_pos hq, ← hm (q - m) (by omega), show m + (q - m) = q by omega]
  · rw [if_neg hq]
theorem MdC.set {h : hp_H} {m : Nat} {S : MS} : MdC (md_set h m S) m S := fun j hj => md_at h m S j hj
section INV
variable {g : hp_H} {x : Nat} {l p n u : Int32} {c : Nat → Int32} {A : Nat → Option Nat} {s d : Nat} {E : Nat → ES}
theorem cb_md {S : MS} : md_set (cb g x l p n u c A s d E) (x + 14) S = (cb (md_set g (x + 14) S) x l p n u c A s d E) := by
  refine Prod.ext (funext fun q => ?_) rfl
  show (if x + 14 ≤ q ∧ q ≤ x + 14 + 20 then _ else if x ≤ q ∧ q < x + 14 then _ else g.1 q) = (if x ≤ q ∧ q < x + 14 then _ else if x + 14 ≤ q ∧ q ≤ x + 14 + 20 then _ else g.1 q)
  by_cases h1 : x + 14 ≤ q ∧ q ≤ x + 14 + 20
  · rw [if_pos h1, if_neg (by omega), if_pos h1]
  · rw [if_neg h1]
    by_cases h2 : x ≤ q ∧ q < x + 14
    · rw [if_pos h2, if_pos h2]
    · rw [if_neg h2, if_neg h2, if_neg h1]
theorem cb_mdC {S : MS} (hm : MdC g (x + 14) S) : (cb g x l p n u c A s d E) = md_set (cb g x l p n u c A s d E) (x + 14) S := by
  rw [cb_md, md_self hm]
theorem MdC.ext {g' : hp_H} {m : Nat} {S : MS} (hm : MdC g m S) (hg : m + 21 ≤ g.2) (he : Ext 0 g g') : MdC g' m S := fun j hj => (he.2 (m + j) (Nat.zero_le _) (by omega)).trans (hm j hj)
theorem Ext.md {S : MS} : Ext (x + 35) g (md_set g (x + 14) S) := ⟨Nat.le_refl _, fun a h1 _ => by
  show (if x + 14 ≤ a ∧ a ≤ x + 14 + 20 then _ else g.1 a) = g.1 a
  rw [if_neg (by omega)]⟩
theorem ok_mk {F G : hp_H → Nat → Option (Int32 × hp_H)} {h : hp_H} {r : Int32} {len N R : Nat} {S S' : MS} {ga gd : Nat → Nat} (e1 : F h x = some (r, (cb g x (nI len) 0 (nI N) u c A s d E))) (hm : MdC g (x + 14) S) (e2 : G (md_set (cb g x (nI len) 0 (nI N) u c A s d E) (x + 14) S) (x + 14) = some (r, md_set (cb g x (nI len) 0 (nI N) u c A s d E) (x + 14) S')) (geo : x + 35 ≤ g.2 ∧ s ≤ 1 ∧ d ≤ 1 ∧ s ≠ d) (hu : S'.1 17 = u) (hl : LnC c S' len) (ht : TbC (x + 35) g A S' ga gd N) (hr : RsC (E s) S' ga N R) : CallOk x F G h := by
  have hh : (cb g x (nI len) 0 (nI N) u c A s d E) = md_set (cb g x (nI len) 0 (nI N) u c A s d E) (x + 14) S := cb_mdC hm
  refine ⟨r, _, _, e1, ?_, by rw [hh]; exact e2, ?_⟩
  · rw [hh]; exact md_o
  · rw [cb_md]
    exact ⟨md_set g (x + 14) S', c, A, s, d, E, S', ga, gd, N, R, len, by rw [hu], geo, MdC.set, hl, ht.ext Ext.md, hr⟩
end INV
theorem vp_char : ∀ q, q < 256 → ((nI q).toUInt32 % 65536).toInt32 = nI q ∧ vp_nar .char (nI q) = nI q ∧ fits .char (.int (nI q)) = true := by decide +kernel
section CALL1
variable {x : Nat} {h : hp_H}
theorem ok_type (hI : Inv x h) (v : Int32) : CallOk x (fun h x => f_LL_type h x v) (fun h x => f_MD_type h x v) h := by
  obtain ⟨g, c, A, s, d, E, S, ga, gd, N, R, len, rfl, geo, hm, hl, ht, hr⟩ := hI
  have hmt := fun h => md_type h (x + 14) hl.1 hl.2.1 v
  by_cases c1 : v < 0
  · refine ok_mk (r := -1) (S' := S) ?_ hm ?_ geo rfl hl ht hr
    · simp only [f_LL_type]; rw [if_pos c1]
    · rw [hmt, if_pos c1]
  · by_cases c2 : v ≤ 255
    · by_cases c3 : len = 40
      · refine ok_mk (r := -2) (S' := S) ?_ hm ?_ geo rfl hl ht hr
        · simp only [f_LL_type, cb_r0, cb_l1, Option.bind_some]
          rw [if_neg c1, if_pos c2, if_pos (by rw [c3]; rfl)]
        · rw [hmt, if_neg c1, if_pos c2, if_pos c3]
      · obtain ⟨q, q1, q2⟩ := nI_of2 (M := 255) (n := 255) (by decide) c1 c2
        subst q2
        have hlen : len < 40 := by have := hl.1; omega
        obtain ⟨v1, v2, v3⟩ := vp_char q (by omega)
        refine ok_mk (r := nI (len + 1)) (len := len + 1) (c := va_up c len (nI q)) (S' := (va_up S.1 0 (nI (len + 1)), va_up S.2 1 (va_up (S.2 1) len (nI q)))) ?_ hm ?_ geo rfl ?_ (ht.same (S' := (va_up S.1 0 (nI (len + 1)), va_up S.2 1 (va_up (S.2 1) len (nI q)))) rfl (fun k k1 k2 => va_up_ne _ _ (by omega))) (hr.same (S' := (va_up S.1 0 (nI (len + 1)), va_up S.2 1 (va_up (S.2 1) len (nI q)))) rfl (fun e _ => ⟨rfl, rfl, rfl⟩))
        · simp only [f_LL_type, f_LN_append, cb_r0, cb_l1, cb_l0, cb_o1, Option.bind_some, v1, v2, cb_ls hlen, cb_v1, nI_1]
          rw [if_neg c1, if_pos c2, if_neg (show ¬ nI len = (40 : Int32) from fun z => c3 ((nI_eq (b := 40) (by omega) (by decide)).mp z)), if_neg (show ¬ (40 : Int32) ≤ nI len from nI_ge (b := 40) hlen (by decide))]
          simp only [Option.bind_some, cb_r0, cb_l1]
          rfl
        · rw [hmt, if_neg c1, if_pos c2, if_neg c3]
        · refine ⟨by omega, rfl, fun j hj => ?_⟩
          by_cases hjl : j = len
          · subst hjl
            refine ⟨?_, by rw [va_up_self]; exact v3⟩
            show va_up c j (nI q) j = va_up (S.2 1) j (nI q) j
            rw [va_up_self, va_up_self]
          · have := hl.2.2 j (by omega)
            refine ⟨?_, by rw [va_up_ne _ _ hjl]; exact this.2⟩
            show va_up c len (nI q) j = va_up (S.2 1) len (nI q) j
            rw [va_up_ne _ _ hjl, va_up_ne _ _ hjl]; exact this.1
    · refine ok_mk (r := -1) (S' := S) ?_ hm ?_ geo rfl hl ht hr
      · simp only [f_LL_type]; rw [if_neg c1, if_neg c2]
      · rw [hmt, if_neg c1, if_neg c2]
theorem ok_wipe (hI : Inv x h) : CallOk x f_LL_wipe f_MD_wipe h := by
  obtain ⟨g, c, A, s, d, E, S, ga, gd, N, R, len, rfl, geo, hm, hl, ht, hr⟩ := hI
  refine ok_mk (r := nI len) (len := 0) (c := c) (S' := (va_up S.1 0 0, S.2)) ?_ hm ?_ geo rfl (LnC.z rfl) (ht.same rfl (fun _ _ _ => rfl)) (hr.same rfl (fun _ _ => ⟨rfl, rfl, rfl⟩))
  · simp only [f_LL_wipe, f_LN_clear, cb_r0, cb_l1, cb_o1, Option.bind_some, cb_v1, cb_v2]
    rfl
  · rw [md_wipe, hl.2.1]
theorem ok_culprit (hI : Inv x h) : CallOk x f_LL_culprit f_MD_culprit h := by
  obtain ⟨g, c, A, s, d, E, S, ga, gd, N, R, len, rfl, geo, hm, hl, ht, hr⟩ := hI
  refine ok_mk (r := S.1 17) (S' := S) ?_ hm ?_ geo rfl hl ht hr
  · simp only [f_LL_culprit, cb_r5, Option.bind_some]
  · rw [md_culprit]
end CALL1
/-- is it a number below R -/
theorem ix_cases {R : Nat} (hR : R ≤ 40) (v : Int32) : (v < 0 ∧ ¬ ∃ j, j < R ∧ v = nI j) ∨ (¬ v < 0 ∧ nI R ≤ v ∧ ¬ ∃ j, j < R ∧ v = nI j) ∨ ∃ j, j < R ∧ v = nI j ∧ ¬ v < 0 ∧ ¬ nI R ≤ v := by
  by_cases h0 : v < 0
  · left
    refine ⟨h0, ?_⟩
    rintro ⟨j, j1, rfl⟩
    exact nI_pos (by omega) h0
  · right
    obtain ⟨j, j1, rfl⟩ := nI_of h0
    by_cases hj : j < R
    · exact Or.inr ⟨j, hj, rfl, h0, nI_ge hj (by omega)⟩
    · refine Or.inl ⟨h0, nI_le (by omega) j1, ?_⟩
      rintro ⟨k, k1, k2⟩
      have := (nI_eq (by omega) (by omega)).mp k2
      omega
section CALL2
variable {x : Nat} {h : hp_H}
theorem ok_entry (hI : Inv x h) (v : Int32) : CallOk x (fun h x => f_LL_entry h x v) (fun h x => f_MD_entry h x v) h := by
  obtain ⟨g, c, A, s, d, E, S, ga, gd, N, R, len, rfl, geo, hm, hl, ht, hr⟩ := hI
  obtain ⟨rv, r1, r2⟩ := hr
  have hs := geo.2.1
  have hR := rv.1
  have key : ∀ h, (∀ j, j < R → v = nI j → f_MD_entry (md_set h (x + 14) S) (x + 14) v = some (S.2 20 j, md_set h (x + 14) S)) ∧ ((¬ ∃ j, j < R ∧ v = nI j) → f_MD_entry (md_set h (x + 14) S) (x + 14) v = some (-1, md_set h (x + 14) S)) := fun h => ⟨fun j j1 j2 => ((md_get20 h (x + 14) rv v).1 j j1 j2).1, fun z => ((md_get20 h (x + 14) rv v).2 z).1⟩
  rcases ix_cases (show R ≤ 40 by omega) v with ⟨c1, c2⟩ | ⟨c0, c1, c2⟩ | ⟨j, j1, j2, j3, j4⟩
  · refine ok_mk (r := -1) (S' := S) ?_ hm ((key _).2 c2) geo rfl hl ht ⟨rv, r1, r2⟩
    simp only [f_LL_entry, f_EL_has, cb_r3, cb_o2 hs, Option.bind_some]
    rw [if_pos c1, Option.bind_some, if_pos rfl]
  · refine ok_mk (r := -1) (S' := S) ?_ hm ((key _).2 c2) geo rfl hl ht ⟨rv, r1, r2⟩
    simp only [f_LL_entry, f_EL_has, cb_r3, cb_o2 hs, cb_q4 hs, Option.bind_some, r1]
    rw [if_neg c0, if_pos c1, Option.bind_some, if_pos rfl]
  · obtain ⟨a, a1, a2⟩ := rv.2.2 j j1
    refine ok_mk (r := S.2 20 j) (S' := S) ?_ hm ((key _).1 j j1 j2) geo rfl hl ht ⟨rv, r1, r2⟩
    have hA := (ht.2.2.1 a a1).2
    obtain ⟨v', ch, df, q1, -⟩ := hA
    have e0 : hp_fI (cb g x (nI len) 0 (nI N) (S.1 17) c A s d E) (some (ga a)) 3 0 = some (nI a) := hp_fI_of (by rw [cb_out (by have := q1.1; omega)]; exact q1.2.2) rfl
    simp only [f_LL_entry, f_EL_has, cb_r3, cb_o2 hs, cb_q4 hs, Option.bind_some, r1]
    rw [if_neg j3, if_neg j4, Option.bind_some, if_neg (show ¬ (1 : Int32) = 0 by decide)]
    simp only [cb_r3, cb_q0 hs, Option.bind_some]
    rw [j2, hp_aR_at (cb_e1 hs) (by omega) (by decide), Option.bind_some, (r2 j j1).1, a2, nI_clamp (by have := ht.1.1; omega), e0, Option.bind_some]
theorem ok_depth (hI : Inv x h) (v : Int32) : CallOk x (fun h x => f_LL_depth h x v) (fun h x => f_MD_depth h x v) h := by
  obtain ⟨g, c, A, s, d, E, S, ga, gd, N, R, len, rfl, geo, hm, hl, ht, hr⟩ := hI
  obtain ⟨rv, r1, r2⟩ := hr
  have hs := geo.2.1
  have hR := rv.1
  have key : ∀ h, (∀ j, j < R → v = nI j → f_MD_depth (md_set h (x + 14) S) (x + 14) v = some (S.2 21 j, md_set h (x + 14) S)) ∧ ((¬ ∃ j, j < R ∧ v = nI j) → f_MD_depth (md_set h (x + 14) S) (x + 14) v = some (-1, md_set h (x + 14) S)) := fun h => ⟨fun j j1 j2 => ((md_get20 h (x + 14) rv v).1 j j1 j2).2, fun z => ((md_get20 h (x + 14) rv v).2 z).2⟩
  rcases ix_cases (show R ≤ 40 by omega) v with ⟨c1, c2⟩ | ⟨c0, c1, c2⟩ | ⟨j, j1, j2, j3, j4⟩
  · refine ok_mk (r := -1) (S' := S) ?_ hm ((key _).2 c2) geo rfl hl ht ⟨rv, r1, r2⟩
    simp only [f_LL_depth, f_EL_has, cb_r3, cb_o2 hs, Option.bind_some]
    rw [if_pos c1, Option.bind_some, if_pos rfl]
  · refine ok_mk (r := -1) (S' := S) ?_ hm ((key _).2 c2) geo rfl hl ht ⟨rv, r1, r2⟩
    simp only [f_LL_depth, f_EL_has, cb_r3, cb_o2 hs, cb_q4 hs, Option.bind_some, r1]
    rw [if_neg c0, if_pos c1, Option.bind_some, if_pos rfl]
  · refine ok_mk (r := S.2 21 j) (S' := S) ?_ hm ((key _).1 j j1 j2) geo rfl hl ht ⟨rv, r1, r2⟩
    simp only [f_LL_depth, f_EL_has, cb_r3, cb_o2 hs, cb_q4 hs, Option.bind_some, r1]
    rw [if_neg j3, if_neg j4, Option.bind_some, if_neg (show ¬ (1 : Int32) = 0 by decide)]
    simp only [cb_r3, cb_q1 hs, Option.bind_some]
    rw [j2, hp_aI_at (cb_e2 hs) (by omega) (by decide), Option.bind_some, (r2 j j1).2.1]
theorem ok_parent (hI : Inv x h) (v : Int32) : CallOk x (fun h x => f_LL_parent h x v) (fun h x => f_MD_parent h x v) h := by
  obtain ⟨g, c, A, s, d, E, S, ga, gd, N, R, len, rfl, geo, hm, hl, ht, hr⟩ := hI
  obtain ⟨rv, r1, r2⟩ := hr
  have hs := geo.2.1
  have hR := rv.1
  have key := fun h => md_parent h (x + 14) rv v
  by_cases c0 : v = 0
  · refine ok_mk (r := -1) (S' := S) ?_ hm ((key _).2 ?_) geo rfl hl ht ⟨rv, r1, r2⟩
    · simp only [f_LL_parent]; rw [if_pos c0]
    · rintro ⟨j, j0, j1, j2⟩
      rw [c0] at j2
      exact nI_ne0 j0 (by omega) j2.symm
  rcases ix_cases (show R ≤ 40 by omega) v with ⟨c1, c2⟩ | ⟨c3, c1, c2⟩ | ⟨j, j1, j2, j3, j4⟩
  · refine ok_mk (r := -1) (S' := S) ?_ hm ((key _).2 (fun ⟨j, _, z⟩ => c2 ⟨j, z⟩)) geo rfl hl ht ⟨rv, r1, r2⟩
    simp only [f_LL_parent, f_EL_has, cb_r3, cb_o2 hs, Option.bind_some]
    rw [if_neg c0, if_pos c1, Option.bind_some, if_pos rfl]
  · refine ok_mk (r := -1) (S' := S) ?_ hm ((key _).2 (fun ⟨j, _, z⟩ => c2 ⟨j, z⟩)) geo rfl hl ht ⟨rv, r1, r2⟩
    simp only [f_LL_parent, f_EL_has, cb_r3, cb_o2 hs, cb_q4 hs, Option.bind_some, r1]
    rw [if_neg c0, if_neg c3, if_pos c1, Option.bind_some, if_pos rfl]
  · have j0 : 0 < j := by
      rcases Nat.eq_zero_or_pos j with z | z
      · subst z; exact absurd j2 c0
      · exact z
    refine ok_mk (r := S.2 22 j) (S' := S) ?_ hm ((key _).1 j j0 j1 j2) geo rfl hl ht ⟨rv, r1, r2⟩
    simp only [f_LL_parent, f_EL_has, cb_r3, cb_o2 hs, cb_q4 hs, Option.bind_some, r1]
    rw [if_neg c0, if_neg j3, if_neg j4, Option.bind_some, if_neg (show ¬ (1 : Int32) = 0 by decide)]
    simp only [cb_r3, cb_q2 hs, Option.bind_some]
    rw [j2, hp_aI_at (cb_e3 hs) (by omega) (by decide), Option.bind_some, (r2 j j1).2.2 j0]
/-- the artifact of a number -/
theorem cl_artAt {g : hp_H} {l p u : Int32} {c : Nat → Int32} {A : Nat → Option Nat} {s d : Nat} {E : Nat → ES} {N : Nat} {ga : Nat → Nat} (hN : N ≤ 20) (hA : ∀ i, i < N → A i = some (ga i)) (v : Int32) : ((¬ ∃ i, i < N ∧ v = nI i) → f_LL_artifactAt (cb g x l p (nI N) u c A s d E) x v = some (none, (cb g x l p (nI N) u c A s d E))) ∧ ∀ i, i < N → v = nI i → f_LL_artifactAt (cb g x l p (nI N) u c A s d E) x v = some (some (ga i), (cb g x l p (nI N) u c A s d E)) := by
  unfold f_LL_artifactAt
  simp only [cb_r2, cb_r1, Option.bind_some]
  constructor
  · intro hno
    rcases ix_cases (show N ≤ 40 by omega) v with ⟨c1, c2⟩ | ⟨c3, c1, c2⟩ | ⟨j, j1, j2, j3, j4⟩
    · rw [if_pos c1]
    · rw [if_neg c3, if_pos c1]
    · exact absurd ⟨j, j1, j2⟩ hno
  · intro i hi hv
    subst hv
    rw [if_neg (nI_pos (by omega)), if_neg (nI_ge hi (by omega)), hp_aR_at cb_c3 (by omega) (by decide), Option.bind_some, hA i hi]
theorem ok_text (hI : Inv x h) (v w : Int32) : CallOk x (fun h x => f_LL_text h x v w) (fun h x => f_MD_text h x v w) h := by
  obtain ⟨g, c, A, s, d, E, S, ga, gd, N, R, len, rfl, geo, hm, hl, ht, hr⟩ := hI
  have key := fun h => md_text h (x + 14) ht.1.2.1 ht.1.1 (fun i hi => (ht.1.2.2 i hi).1) v w
  obtain ⟨a1, a2⟩ := cl_artAt (x := x) (g := g) (l := nI len) (p := 0) (u := S.1 17) (c := c) (s := s) (d := d) (E := E) ht.1.1 (fun i hi => (ht.2.2.1 i hi).1) v
  by_cases hex : ∃ i, i < N ∧ v = nI i
  · obtain ⟨i, i1, i2⟩ := hex
    obtain ⟨k1, k2, k3⟩ := (key (cb g x (nI len) 0 (nI N) (S.1 17) c A s d E)).2 i i1 i2
    obtain ⟨v', ch, df, q1, -, ⟨b1, b2, f, b3, b4⟩, -⟩ := (ht.2.2.1 i i1).2
    have hl21 := (ht.1.2.2 i i1).1.len
    have e3 : hp_fR (cb g x (nI len) 0 (nI N) (S.1 17) c A s d E) (some (ga i)) 3 3 = some (some ch) := hp_fR_ref (by rw [cb_out (by have := q1.1; omega)]; exact q1.2.2) rfl
    have ec : (cb g x (nI len) 0 (nI N) (S.1 17) c A s d E).1 ch = some (.inl (2, tl S i, .inl f)) := by rw [cb_out (by omega)]; exact b3
    have en : hp_len (cb g x (nI len) 0 (nI N) (S.1 17) c A s d E) (some ch) 2 = some (nI (tl S i)) := hp_len_of ec
    have start : f_LL_text (cb g x (nI len) 0 (nI N) (S.1 17) c A s d E) x v w = (if w = -1 then some (nI (tl S i), cb g x (nI len) 0 (nI N) (S.1 17) c A s d E) else if w < 0 then some (-1, cb g x (nI len) 0 (nI N) (S.1 17) c A s d E) else if w < nI (tl S i) then (hp_aI (cb g x (nI len) 0 (nI N) (S.1 17) c A s d E) (some ch) 2 w).bind (fun x15 => some (x15, cb g x (nI len) 0 (nI N) (S.1 17) c A s d E)) else some (-1, cb g x (nI len) 0 (nI N) (S.1 17) c A s d E)) := by
      unfold f_LL_text
      simp only [cb_o0, Option.bind_some, a2 i i1 i2, e3, en]
      rw [if_neg (by simp)]
    by_cases c1 : w = -1
    · exact ok_mk (r := nI (tl S i)) (S' := S) (by rw [start, if_pos c1]) hm (k1 c1) geo rfl hl ht hr
    · rcases ix_cases (show tl S i ≤ 40 by omega) w with ⟨c2, c3⟩ | ⟨c4, c2, c3⟩ | ⟨j, j1, j2, j3, j4⟩
      · exact ok_mk (r := -1) (S' := S) (by rw [start, if_neg c1, if_pos c2]) hm (k3 ⟨c1, c3⟩) geo rfl hl ht hr
      · exact ok_mk (r := -1) (S' := S) (by rw [start, if_neg c1, if_neg c4, if_neg (Int32.not_lt.mpr c2)]) hm (k3 ⟨c1, c3⟩) geo rfl hl ht hr
      · refine ok_mk (r := S.2 6 (i * 21 + j)) (S' := S) ?_ hm (k2 j j1 j2) geo rfl hl ht hr
        rw [start, if_neg c1, if_neg j3, if_pos (Int32.not_le.mp j4), j2, hp_aI_at ec j1 (by omega), Option.bind_some, b4 j j1]
  · refine ok_mk (r := -1) (S' := S) ?_ hm ((key _).1 hex) geo rfl hl ht hr
    simp only [f_LL_text, cb_o0, Option.bind_some, a1 hex]
    rw [if_pos trivial]
end CALL2
