/-! ===== the class's takeRange ===== -/
section CLR3
variable {g : hp_H} {x : Nat} {l p n u : Int32} {c : Nat → Int32} {A : Nat → Option Nat} {s d : Nat} {E : Nat → ES} {lo : Nat}
theorem TkR.pre {g1 g' : hp_H} {a len b : Nat} {o : Option Nat} (he : Ext 0 g g1) (h : TkR lo g1 c a len g' o b) : TkR lo g c a len g' o b := ⟨he.trans h.1, h.2⟩
theorem brk_nvc {v : Int32} (h : v = 93 ∨ v = 41) : ¬ VC v := fun z => h.elim (vc_n z).2.1 (vc_n z).2.2.1
theorem brk_ndg {v : Int32} (h : v = 93 ∨ v = 41) : ¬ Dg v := fun z => brk_nvc h (Or.inl z)
/-- what a range with brackets is, once the comma is known to stand at k -/
theorem RgP_at {a k len : Nat} (hnV : ¬ VrP c a len) (hk : k < len) (hfx : fx c 44 a (len - a) = k) (h : RgP c a len) : a + 3 ≤ len ∧ (c (len - 1) = 93 ∨ c (len - 1) = 41) ∧ (k = a + 1 ∨ VrP c (a + 1) k) ∧ (k = len - 2 ∨ VrP c (k + 1) (len - 1)) := by
  rcases h with h | ⟨h1, _, h3, h4⟩
  · exact absurd h hnV
  · rcases h4 with h4 | h4
    · exact absurd (h4.1.symm.trans hfx) (by omega)
    · rw [hfx] at h4
      exact ⟨h1, h3, h4.2.1, h4.2.2⟩
theorem cl_rest {a k len : Nat} {L : Option Nat} {PL : Nat → Int64} (hlo : x + 14 ≤ lo) (hg : lo ≤ g.2) (hl : len ≤ 40) (hca : c a = 91 ∨ c a = 40) (hak : a + 1 ≤ k) (hk : k < len) (hck : c k = 44) (hnk : ∀ j, a ≤ j → j < k → c j ≠ 44)
    (hL : (k = a + 1 ∧ L = none) ∨ (VrP c (a + 1) k ∧ ∃ v, L = some v ∧ Vat lo g v PL)) (hPL : PL = prt (sh c (a + 1)) (k - (a + 1))) :
    ∃ g' o b', f_LN_takeRestOfRange (cb g x (nI len) (nI (k + 1)) n u c A s d E) (x + 1) L (zi (c a = 40)) = some (o, (cb g' x (nI len) (nI b') n u c A s d E)) ∧ TkR lo g c a len g' o b' := by
  have hfx := fx_comma (by omega) hk hck hnk
  have hnV : ¬ VrP c a len := by
    intro z
    have := z.2.2.1
    rcases hca with w | w <;> rw [w] at this <;> exact absurd this (by decide)
  have hx : x + 14 ≤ g.2 := Nat.le_trans hlo hg
  have empty : (k + 1 < len ∧ (c (k + 1) = 93 ∨ c (k + 1) = 41)) → ∃ g' o b', f_LN_takeRestOfRange_L31 (x + 1) L (zi (c a = 40)) none (cb g x (nI len) (nI (k + 1)) n u c A s d E) = some (o, (cb g' x (nI len) (nI b') n u c A s d E)) ∧ TkR lo g c a len g' o b' := by
    intro hc
    refine cl_rest_31 (PH := prt (sh c (k + 1)) (k + 1 - (k + 1))) hlo hg hl hca hak hk hck hnk hL hPL (Nat.le_of_lt hc.1) (Or.inl ⟨rfl, rfl⟩) rfl fun hR => ?_
    obtain ⟨_, _, _, h4⟩ := RgP_at hnV hk hfx hR
    rcases h4 with h4 | h4
    · omega
    · exact absurd h4.2.2.1 (brk_ndg hc.2)
  unfold f_LN_takeRestOfRange
  simp only [cb_o1, cl_stands 93 hl (show k + 1 ≤ len by omega), cl_stands 41 hl (show k + 1 ≤ len by omega), Option.bind_some]
  by_cases c1 : k + 1 < len ∧ c (k + 1) = 93
  · rw [if_neg (fun z => zi_eq0.mp z c1)]
    exact empty ⟨c1.1, Or.inl c1.2⟩
  · rw [if_pos (zi_eq0.mpr c1)]
    by_cases c2 : k + 1 < len ∧ c (k + 1) = 41
    · rw [if_neg (fun z => zi_eq0.mp z c2)]
      exact empty ⟨c2.1, Or.inr c2.2⟩
    · rw [if_pos (zi_eq0.mpr c2)]
      obtain ⟨t1, t2⟩ := cl_takeVersion (g := g) (x := x) (n := n) (u := u) (c := c) (A := A) (s := s) (d := d) (E := E) (a := k + 1) hlo hg hl (show k + 1 ≤ len by omega)
      have hmax : RgP c a len → rnn (fun k => VC (c k)) (len - (k + 1)) (k + 1) = len - 1 ∧ VrP c (k + 1) (len - 1) := by
        intro hR
        obtain ⟨h1, h2, _, h4⟩ := RgP_at hnV hk hfx hR
        rcases h4 with h4 | h4
        · have e : len - 1 = k + 1 := by omega
          rw [e] at h2
          rcases h2 with h2 | h2
          · exact absurd ⟨by omega, h2⟩ c1
          · exact absurd ⟨by omega, h2⟩ c2
        · exact ⟨vmax (by have := h4.1; omega) (by omega) h4.vc (fun _ => brk_nvc h2), h4⟩
      obtain ⟨r1, r2, -, -⟩ := rnn_spec (fun k => VC (c k)) (len - (k + 1)) (k + 1)
      generalize rnn (fun k => VC (c k)) (len - (k + 1)) (k + 1) = b at *
      by_cases hV : VrP c (k + 1) b
      · obtain ⟨g1, v, e1, e2, e3⟩ := t1 hV
        rw [e1]
        simp only [Option.bind_some]
        rw [if_neg (by simp)]
        have hL1 : (k = a + 1 ∧ L = none) ∨ (VrP c (a + 1) k ∧ ∃ v, L = some v ∧ Vat lo g1 v PL) := by
          rcases hL with z | ⟨z1, v', z2, z3⟩
          · exact Or.inl z
          · exact Or.inr ⟨z1, v', z2, z3.ext e2.mono⟩
        obtain ⟨g', o, b', q1, q2⟩ := cl_rest_31 (g := g1) (x := x) (n := n) (u := u) (A := A) (s := s) (d := d) (E := E) (b := b) (H := some v) hlo (Nat.le_trans hg e2.1) hl hca hak hk hck hnk hL1 hPL (by omega) (Or.inr ⟨hV, v, rfl, e3⟩) rfl (fun hR => (hmax hR).1)
        exact ⟨g', o, b', q1, TkR.pre e2 q2⟩
      · rw [t2 hV]
        simp only [Option.bind_some]
        rw [if_pos trivial]
        exact ⟨g, none, b, rfl, TkR.no Ext.rfl' (by omega) fun hR => hV ((hmax hR).1 ▸ (hmax hR).2)⟩
theorem cl_range_53 {a len : Nat} (hlo : x + 14 ≤ lo) (hg : lo ≤ g.2) (hl : len ≤ 40) (ha : a < len) (hca : c a = 91 ∨ c a = 40) {y1 : Int32} (hy : y1 = zi (c a = 91)) :
    ∃ g' o b', f_LN_takeRange_L53 (x + 1) y1 (zi (c a = 40)) (cb g x (nI len) (nI (a + 1)) n u c A s d E) = some (o, (cb g' x (nI len) (nI b') n u c A s d E)) ∧ TkR lo g c a len g' o b' := by
  have hx : x + 14 ≤ g.2 := Nat.le_trans hlo hg
  have hca44 : c a ≠ 44 := by
    rcases hca with w | w <;> rw [w] <;> decide
  have hnV : ¬ VrP c a len := by
    intro z
    have := z.2.2.1
    rcases hca with w | w <;> rw [w] at this <;> exact absurd this (by decide)
  unfold f_LN_takeRange_L53
  simp only [cb_o1, cl_stands 44 hl (show a + 1 ≤ len by omega), Option.bind_some]
  by_cases c1 : a + 1 < len ∧ c (a + 1) = 44
  · rw [if_neg (fun z => zi_eq0.mp z c1), cl_take_1 hl c1.1 c1.2, Option.bind_some, if_neg (show ¬ (1 : Int32) = 0 by decide)]
    simp only [cb_o1, Option.bind_some]
    obtain ⟨g', o, b', q1, q2⟩ := cl_rest (g := g) (x := x) (n := n) (u := u) (c := c) (A := A) (s := s) (d := d) (E := E) (a := a) (k := a + 1) (L := none) hlo hg hl hca (Nat.le_refl _) c1.1 c1.2 (fun j j1 j2 => by rw [show j = a by omega]; exact hca44) (Or.inl ⟨rfl, rfl⟩) rfl
    rw [q1, Option.bind_some]
    exact ⟨g', o, b', rfl, q2⟩
  · rw [if_pos (zi_eq0.mpr c1)]
    obtain ⟨t1, t2⟩ := cl_takeVersion (g := g) (x := x) (n := n) (u := u) (c := c) (A := A) (s := s) (d := d) (E := E) (a := a + 1) hlo hg hl (show a + 1 ≤ len by omega)
    obtain ⟨r1, r2, r3, r4⟩ := rnn_spec (fun k => VC (c k)) (len - (a + 1)) (a + 1)
    -- what a range here must be
    have hR : RgP c a len → VrP c (a + 1) (rnn (fun k => VC (c k)) (len - (a + 1)) (a + 1)) ∧ rnn (fun k => VC (c k)) (len - (a + 1)) (a + 1) < len ∧ ((c (rnn (fun k => VC (c k)) (len - (a + 1)) (a + 1)) = 93 ∧ c a = 91 ∧ rnn (fun k => VC (c k)) (len - (a + 1)) (a + 1) = len - 1) ∨ c (rnn (fun k => VC (c k)) (len - (a + 1)) (a + 1)) = 44) := by
      intro h
      rcases h with h | ⟨h1, _, h3, h4⟩
      · exact absurd h hnV
      · obtain ⟨f1, f2, f3, f4⟩ := fx_spec c 44 (len - a) a
        rcases h4 with ⟨_, h5, h6, h7⟩ | ⟨h5, h6, _⟩
        · have e := vmax (c := c) (a := a + 1) (r := len - 1) (len := len) (by omega) (by omega) h7.vc (fun _ => brk_nvc h3)
          rw [e]
          exact ⟨h7, by omega, Or.inl ⟨h6, h5, rfl⟩⟩
        · have h44 := f4 (by omega)
          rcases h6 with h6 | h6
          · rw [h6] at h44
            exact absurd ⟨by omega, h44⟩ c1
          · have e := vmax (c := c) (a := a + 1) (r := fx c 44 a (len - a)) (len := len) (by have := h6.1; omega) (by omega) h6.vc (fun _ z => (vc_n z).1 h44)
            rw [e]
            exact ⟨h6, by omega, Or.inr h44⟩
    generalize rnn (fun k => VC (c k)) (len - (a + 1)) (a + 1) = b at *
    by_cases hV : VrP c (a + 1) b
    · obtain ⟨g1, v, e1, e2, e3⟩ := t1 hV
      have hg1 := Nat.le_trans hg e2.1
      have hab := hV.1
      have hn44 : ∀ j, a ≤ j → j < b → c j ≠ 44 := by
        intro j j1 j2
        rcases Nat.eq_or_lt_of_le j1 with z | z
        · rw [← z]; exact hca44
        · exact (vc_n (r3 j z j2)).1
      rw [e1]
      simp only [Option.bind_some]
      rw [if_neg (by simp)]
      have comma : ∀ (T : Option (Option Nat × hp_H)), T = ((f_LN_take (cb g1 x (nI len) (nI b) n u c A s d E) (x + 1) 44).bind fun q40 => if q40.1 = 0 then some (none, q40.2) else (hp_o q40.2 (some (x + 1)) 1).bind fun _ => (f_LN_takeRestOfRange q40.2 (x + 1) (some v) (zi (c a = 40))).bind fun q45 => some (q45.1, q45.2)) → ¬ (b < len ∧ c b = 93 ∧ c a = 91) → ∃ g' o b', T = some (o, (cb g' x (nI len) (nI b') n u c A s d E)) ∧ TkR lo g c a len g' o b' := by
        intro T hT hno
        rw [hT]
        by_cases c3 : b < len ∧ c b = 44
        · rw [cl_take_1 hl c3.1 c3.2, Option.bind_some, if_neg (show ¬ (1 : Int32) = 0 by decide)]
          simp only [cb_o1, Option.bind_some]
          obtain ⟨g', o, b', q1, q2⟩ := cl_rest (g := g1) (x := x) (n := n) (u := u) (c := c) (A := A) (s := s) (d := d) (E := E) (a := a) (k := b) (L := some v) hlo hg1 hl hca (by omega) c3.1 c3.2 hn44 (Or.inr ⟨hV, v, rfl, e3⟩) rfl
          rw [q1, Option.bind_some]
          exact ⟨g', o, b', rfl, TkR.pre e2 q2⟩
        · rw [cl_take_0 hl (by omega) c3, Option.bind_some, if_pos rfl]
          refine ⟨g1, none, b, rfl, TkR.no e2 (by omega) fun h => ?_⟩
          obtain ⟨_, h2, h3 | h3⟩ := hR h
          · exact hno ⟨h2, h3.1, h3.2.1⟩
          · exact c3 ⟨h2, h3⟩
      by_cases cl : c a = 91
      · rw [if_neg (by rw [hy]; exact fun z => zi_eq0.mp z cl)]
        simp only [cb_o1, Option.bind_some]
        by_cases c2 : b < len ∧ c b = 93
        · rw [cl_take_1 hl c2.1 c2.2, Option.bind_some, if_neg (show ¬ (1 : Int32) = 0 by decide)]
          obtain ⟨g2, r, q1, q2, q3⟩ := cl_exactly (g := g1) (x := x) (l := nI len) (p := nI (b + 1)) (n := n) (u := u) (c := c) (A := A) (s := s) (d := d) (E := E) (w := 0) hlo hg1 (Or.inl rfl) e3
          rw [q1, Option.bind_some]
          refine ⟨g2, some r, b + 1, rfl, e2.trans q2, by omega, fun r' hr hb => ?_, fun h => ?_⟩
          · cases hr
            have eb : len - 1 = b := by omega
            have hfx : fx c 44 a (len - a) = len := by
              refine fx_eq (by omega) (by omega) (fun j j1 j2 => ?_) (fun z => by omega)
              rcases Nat.lt_or_ge j b with z | z
              · exact hn44 j j1 z
              · rw [show j = b by omega, c2.2]; decide
            refine ⟨Or.inr ⟨by omega, hca, by rw [eb]; exact Or.inl c2.2, Or.inl ⟨hfx, cl, by rw [eb]; exact c2.2, by rw [eb]; exact hV⟩⟩, ?_⟩
            rw [zi_0 hnV]
            refine q3.congr fun P => ?_
            unfold HdP
            rw [hfx, eb]
            constructor
            · rintro (z | ⟨_, z | z⟩)
              · exact absurd z.1 hnV
              · exact z.2
              · exact absurd rfl z.1
            · intro z
              exact Or.inr ⟨hnV, Or.inl ⟨rfl, z⟩⟩
          · obtain ⟨_, h2, h3 | h3⟩ := hR h
            · exact ⟨r, rfl, by omega⟩
            · rw [c2.2] at h3; exact absurd h3 (by decide)
        · rw [cl_take_0 hl (by omega) c2, Option.bind_some, if_pos rfl]
          simp only [cb_o1, Option.bind_some]
          exact comma _ rfl (fun z => c2 ⟨z.1, z.2.1⟩)
      · rw [if_pos (by rw [hy]; exact zi_eq0.mpr cl)]
        simp only [cb_o1, Option.bind_some]
        exact comma _ rfl (fun z => cl z.2.2)
    · rw [t2 hV]
      simp only [Option.bind_some]
      rw [if_pos trivial]
      exact ⟨g, none, b, rfl, TkR.no Ext.rfl' (by omega) fun h => hV (hR h).1⟩
theorem cl_takeRange {a len : Nat} (hlo : x + 14 ≤ lo) (hg : lo ≤ g.2) (hl : len ≤ 40) (ha : a ≤ len) :
    ∃ g' o b', f_LN_takeRange (cb g x (nI len) (nI a) n u c A s d E) (x + 1) = some (o, (cb g' x (nI len) (nI b') n u c A s d E)) ∧ TkR lo g c a len g' o b' := by
  unfold f_LN_takeRange
  simp only [cb_o1, Option.bind_some]
  by_cases c1 : a < len ∧ c a = 91
  · rw [cl_take_1 hl c1.1 c1.2, Option.bind_some, if_neg (show ¬ (1 : Int32) = 0 by decide)]
    unfold f_LN_takeRange_L24 f_LN_takeRange_L25
    rw [if_neg (show ¬ (1 : Int32) = 0 by decide)]
    have := cl_range_53 (g := g) (x := x) (n := n) (u := u) (c := c) (A := A) (s := s) (d := d) (E := E) hlo hg hl c1.1 (Or.inl c1.2) (zi_1 c1.2).symm
    rw [zi_0 (show ¬ c a = 40 by rw [c1.2]; decide)] at this
    exact this
  · rw [cl_take_0 hl ha c1, Option.bind_some, if_pos rfl]
    simp only [cb_o1, Option.bind_some]
    by_cases c2 : a < len ∧ c a = 40
    · rw [cl_take_1 hl c2.1 c2.2, Option.bind_some, if_neg (show ¬ (1 : Int32) = 0 by decide)]
      unfold f_LN_takeRange_L25
      rw [if_pos rfl, if_neg (show ¬ (1 : Int32) = 0 by decide)]
      have := cl_range_53 (g := g) (x := x) (n := n) (u := u) (c := c) (A := A) (s := s) (d := d) (E := E) hlo hg hl c2.1 (Or.inr c2.2) (zi_0 (show ¬ c a = 91 by rw [c2.2]; decide)).symm
      rw [zi_1 c2.2] at this
      exact this
    · rw [cl_take_0 hl ha c2, Option.bind_some, if_pos rfl]
      unfold f_LN_takeRange_L24 f_LN_takeRange_L25
      rw [if_pos rfl, if_pos rfl]
      simp only [cb_o1, Option.bind_some]
      obtain ⟨t1, t2⟩ := cl_takeVersion (g := g) (x := x) (n := n) (u := u) (c := c) (A := A) (s := s) (d := d) (E := E) (a := a) hlo hg hl ha
      obtain ⟨r1, r2, r3, r4⟩ := rnn_spec (fun k => VC (c k)) (len - a) a
      have hR : RgP c a len → VrP c a len ∧ rnn (fun k => VC (c k)) (len - a) a = len := by
        intro h
        rcases h with h | ⟨h1, h2, _, _⟩
        · exact ⟨h, vmax (by have := h.1; omega) (Nat.le_refl _) h.vc (fun z => by omega)⟩
        · rcases h2 with h2 | h2
          · exact absurd ⟨by omega, h2⟩ c1
          · exact absurd ⟨by omega, h2⟩ c2
      generalize rnn (fun k => VC (c k)) (len - a) a = b at *
      by_cases hV : VrP c a b
      · obtain ⟨g1, v, e1, e2, e3⟩ := t1 hV
        have hg1 := Nat.le_trans hg e2.1
        rw [e1]
        simp only [Option.bind_some]
        rw [if_neg (by simp)]
        obtain ⟨g2, r, q1, q2, q3⟩ := cl_exactly (g := g1) (x := x) (l := nI len) (p := nI b) (n := n) (u := u) (c := c) (A := A) (s := s) (d := d) (E := E) (w := 1) hlo hg1 (Or.inr rfl) e3
        rw [q1, Option.bind_some]
        refine ⟨g2, some r, b, rfl, e2.trans q2, by omega, fun r' hr hb => ?_, fun h => ⟨r, rfl, (hR h).2⟩⟩
        cases hr
        subst hb
        refine ⟨Or.inl hV, ?_⟩
        rw [zi_1 hV]
        refine q3.congr fun P => ?_
        unfold HdP
        constructor
        · rintro (z | z)
          · exact z.2
          · exact absurd hV z.1
        · exact fun z => Or.inl ⟨hV, z⟩
      · rw [t2 hV]
        simp only [Option.bind_some]
        rw [if_pos trivial]
        exact ⟨g, none, b, rfl, TkR.no Ext.rfl' (by omega) fun h => hV ((hR h).2 ▸ (hR h).1)⟩
end CLR3
