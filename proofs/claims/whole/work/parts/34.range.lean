/-! ===== the class's versions and ranges, taken from the line ===== -/
theorem hp_up_id {g : hp_H} {a : Nat} {e : hp_E} (h : g.1 a = some e) : hp_up g a e = g := by
  refine Prod.ext (funext fun q => ?_) rfl
  show (if q = a then some e else g.1 q) = g.1 q
  by_cases hq : q = a
  · rw [if_pos hq, hq, h]
  · rw [if_neg hq]
theorem hp_up_push (g : hp_H) (e e' : hp_E) : hp_up (hp_push g e) g.2 e' = hp_push g e' := by
  refine Prod.ext (funext fun q => ?_) rfl
  show (if q = g.2 then some e' else if q = g.2 then some e else g.1 q) = (if q = g.2 then some e' else g.1 q)
  split <;> rfl
theorem vc_n {v : Int32} (h : VC v) : v ≠ 44 ∧ v ≠ 93 ∧ v ≠ 41 ∧ v ≠ 91 ∧ v ≠ 40 ∧ v ≠ 58 := by
  refine ⟨?_, ?_, ?_, ?_, ?_, ?_⟩ <;> (intro e; subst e; exact absurd h (by decide))
theorem vmax {c : Nat → Int32} {a r len : Nat} (h1 : a ≤ r) (h2 : r ≤ len) (h3 : ∀ j, a ≤ j → j < r → VC (c j)) (h4 : r < len → ¬ VC (c r)) : rnn (fun k => VC (c k)) (len - a) a = r := by
  obtain ⟨r1, r2, r3, r4⟩ := rnn_spec (fun k => VC (c k)) (len - a) a
  generalize rnn (fun k => VC (c k)) (len - a) a = b at *
  rcases Nat.lt_trichotomy b r with z | z | z
  · exact absurd (h3 b r1 z) (r4 (by omega))
  · exact z
  · exact absurd (r3 r h1 z) (h4 (by omega))
theorem VrP.vc {c : Nat → Int32} {a b : Nat} (h : VrP c a b) : ∀ j, a ≤ j → j < b → VC (c j) := fun j j1 j2 => (h.2.2.2 j j1 j2).1
/-- what a range's text holds, by the parts -/
def HdP (c : Nat → Int32) (a n : Nat) (P : Nat → Int64) : Prop :=
  (VrP c a n ∧ cmpP P (prt (sh c a) (n - a)) 12 0 = 0) ∨
  (¬ VrP c a n ∧ ((fx c 44 a (n - a) = n ∧ cmpP P (prt (sh c (a + 1)) (n - 1 - (a + 1))) 12 0 = 0) ∨
    (fx c 44 a (n - a) ≠ n ∧
      (fx c 44 a (n - a) = a + 1 ∨ 0 < cmpP P (prt (sh c (a + 1)) (fx c 44 a (n - a) - (a + 1))) 12 0 ∨ (cmpP P (prt (sh c (a + 1)) (fx c 44 a (n - a) - (a + 1))) 12 0 = 0 ∧ c a ≠ 40)) ∧
      (fx c 44 a (n - a) = n - 2 ∨ cmpP P (prt (sh c (fx c 44 a (n - a) + 1)) (n - 1 - (fx c 44 a (n - a) + 1))) 12 0 < 0 ∨ (cmpP P (prt (sh c (fx c 44 a (n - a) + 1)) (n - 1 - (fx c 44 a (n - a) + 1))) 12 0 = 0 ∧ c (n - 1) ≠ 41)))))
theorem HdP_iff {c : Nat → Int32} {a n : Nat} {v : Nat → Int32} {N : Nat} : HoldsP c a n v N ↔ HdP c a n (prt v N) := Iff.rfl
section CLR2
variable {g : hp_H} {x : Nat} {l p n u : Int32} {c : Nat → Int32} {A : Nat → Option Nat} {s d : Nat} {E : Nat → ES} {lo : Nat}
/-- a field of an object outside the block -/
theorem cb_so {a ci k : Nat} {fs : List Value} {v : Value} (hx : x + 14 ≤ a) (hc : g.1 a = some (.inr (ci, fs))) (hk : k < fs.length) : hp_s (cb g x l p n u c A s d E) (some a) ci k v = some (cb (hp_up g a (.inr (ci, fs.set k v))) x l p n u c A s d E) := by
  rw [hp_s_of (fs := fs) (by rw [cb_out hx, hc]) hk, cb_hup hx]
/-- a field of the newest object -/
theorem cb_sp {ci k : Nat} {fs : List Value} {v : Value} (hx : x + 14 ≤ g.2) (hk : k < fs.length) : hp_s (cb (hp_push g (.inr (ci, fs))) x l p n u c A s d E) (some g.2) ci k v = some (cb (hp_push g (.inr (ci, fs.set k v))) x l p n u c A s d E) := by
  rw [cb_so hx (fs := fs) (by rw [hp_push_1, if_pos rfl]) hk, hp_up_push]
theorem cl_takeVersion {a len : Nat} (hlo : x + 14 ≤ lo) (hg : lo ≤ g.2) (hl : len ≤ 40) (ha : a ≤ len) :
    (VrP c a (rnn (fun k => VC (c k)) (len - a) a) → ∃ g' v, f_LN_takeVersion (cb g x (nI len) (nI a) n u c A s d E) (x + 1) = some (some v, (cb g' x (nI len) (nI (rnn (fun k => VC (c k)) (len - a) a)) n u c A s d E)) ∧ Ext 0 g g' ∧ Vat lo g' v (prt (sh c a) (rnn (fun k => VC (c k)) (len - a) a - a))) ∧
    (¬ VrP c a (rnn (fun k => VC (c k)) (len - a) a) → f_LN_takeVersion (cb g x (nI len) (nI a) n u c A s d E) (x + 1) = some (none, (cb g x (nI len) (nI (rnn (fun k => VC (c k)) (len - a) a)) n u c A s d E))) := by
  obtain ⟨r1, r2, r3, r4⟩ := rnn_spec (fun k => VC (c k)) (len - a) a
  have key : f_LN_takeVersion (cb g x (nI len) (nI a) n u c A s d E) (x + 1) = f_LN_takeVersion_L44 (x + 1) (nI a) (cb g x (nI len) (nI (rnn (fun k => VC (c k)) (len - a) a)) n u c A s d E) := by
    unfold f_LN_takeVersion
    rw [cb_l2, Option.bind_some]
    exact cl_version_L hl FU a ha (FU_big (by omega))
  rw [key]
  generalize rnn (fun k => VC (c k)) (len - a) a = b at *
  unfold f_LN_takeVersion_L44
  simp only [cb_l2, cb_o1, cl_isVersion hl (show b ≤ len by omega) r1 r3, Option.bind_some]
  refine ⟨fun hV => ?_, fun hV => by rw [if_pos (zi_eq0.mpr hV)]⟩
  rw [if_neg (fun z => zi_eq0.mp z hV)]
  unfold f_VS_init
  have hx : x + 14 ≤ g.2 := Nat.le_trans hlo hg
  simp only [cb_push hx, cb_l0, cb_l2, Option.bind_some, cb_2]
  rw [cb_push (by rw [hp_push_2]; omega), cb_so (fs := [.null]) hx (by rw [hp_push_1, hp_push_2, if_neg (by omega), hp_push_1, if_pos rfl]) (by decide), Option.bind_some]
  let G : hp_H := hp_up (hp_push (hp_push g (.inr (6, [.null]))) (.inl (1, 12, .inr (.inl (fun _ => 0))))) g.2 (.inr (6, [.ref (g.2 + 1)]))
  have hG : vh G g.2 (fun _ => 0) = G := by
    refine hp_up_id ?_
    show (hp_up _ _ _).1 (g.2 + 1) = _
    rw [hp_up_1, if_neg (by omega), hp_push_1, hp_push_2, if_pos rfl]
  have hGv : G.1 g.2 = some (.inr (6, [.ref (g.2 + 1)])) := by
    show (hp_up _ _ _).1 g.2 = _
    rw [hp_up_1, if_pos rfl]
  obtain ⟨f', e1, -, e3⟩ := cl_vs (g := G) (x := x) (l := nI len) (p := nI b) (n := n) (u := u) (c := c) (A := A) (s := s) (d := d) (E := E) (v := g.2) (a := a) (b := b) (M := b - a) hx hGv (by omega) (by omega) (by have := hV.2.1; omega) (fun j hj => r3 (a + j) (by omega) (by omega)) FU 0 0 FU (fun _ => 0) 0 (Nat.zero_le _) (FU_big (by omega)) (FU_big (by omega)) (Nat.le_refl _) (fun _ => Or.inl rfl) (fun _ _ => rfl)
  rw [hG] at e1
  refine ⟨vh G g.2 f', g.2, ?_, ?_, ?_⟩
  · have e1' : f_VS_init_L21 FU g.2 (some (x + 2)) (nI a) (nI b) (-1) 0 (nI a) (cb G x (nI len) (nI b) n u c A s d E) = some (cb (vh G g.2 f') x (nI len) (nI b) n u c A s d E) := e1
    show ((f_VS_init_L21 FU g.2 (some (x + 2)) (nI a) (nI b) (-1) 0 (nI a) (cb G x (nI len) (nI b) n u c A s d E)).bind fun q35 => some (some g.2, q35)) = _
    rw [e1', Option.bind_some]
  · refine ⟨by show g.2 ≤ g.2 + 1 + 1; omega, fun q q1 q2 => ?_⟩
    show (hp_up (hp_up _ _ _) _ _).1 q = _
    rw [hp_up_1, if_neg (by omega), hp_up_1, if_neg (by omega), hp_push_1, hp_push_2, if_neg (by omega), hp_push_1, if_neg (by omega)]
  · refine ⟨hg, by show g.2 + 1 < g.2 + 1 + 1; omega, ?_, f', ?_, fun q _ => ?_⟩
    · show (hp_up _ _ _).1 g.2 = _
      rw [hp_up_1, if_neg (by omega), hGv]
    · show (hp_up _ _ _).1 (g.2 + 1) = _
      rw [hp_up_1, if_pos rfl]
    · have := e3 q
      rw [Nat.zero_add] at this
      rw [this]; rfl
/-- a new range object -/
theorem cl_newRange {w lp hq : Int32} {L H : Option Nat} (hx : x + 14 ≤ g.2) (hw : w = 0 ∨ w = 1) (h1 : lp = 0 ∨ lp = 1) (h2 : hq = 0 ∨ hq = 1) : f_RG_init (cb (hp_push g (.inr (5, [.int 0, .null, .int 0, .null, .int 0]))) x l p n u c A s d E) g.2 w L lp H hq = some (cb (hp_push g (.inr (5, [.int w, va_rf L, .int lp, va_rf H, .int hq]))) x l p n u c A s d E) := by
  have z1 : hp_z w = some w := by unfold hp_z; rw [if_pos hw]
  have z2 : hp_z lp = some lp := by unfold hp_z; rw [if_pos h1]
  have z3 : hp_z hq = some hq := by unfold hp_z; rw [if_pos h2]
  unfold f_RG_init
  simp only [z1, z2, z3, Option.bind_some]
  rw [cb_sp hx (by simp), Option.bind_some, cb_sp hx (by simp), Option.bind_some, cb_sp hx (by simp), Option.bind_some, cb_sp hx (by simp), Option.bind_some, cb_sp hx (by simp), Option.bind_some]
  rfl
theorem Ext.mono {g g' : hp_H} (h : Ext 0 g g') : Ext lo g g' := ⟨h.1, fun a _ h2 => h.2 a (Nat.zero_le _) h2⟩
theorem Rat.congr {h : hp_H} {r : Nat} {w : Int32} {Hd Hd' : (Nat → Int64) → Prop} (hr : Rat lo h r w Hd) (he : ∀ P, Hd' P ↔ Hd P) : Rat lo h r w Hd' := by
  obtain ⟨h1, h2, L, H, lp, hq, PL, PH, h3, h4, h5, h6⟩ := hr
  exact ⟨h1, h2, L, H, lp, hq, PL, PH, h3, h4, h5, fun P => (he P).trans (h6 P)⟩
theorem cl_exactly {v : Nat} {w : Int32} {P : Nat → Int64} (hlo : x + 14 ≤ lo) (hg : lo ≤ g.2) (hw : w = 0 ∨ w = 1) (hv : Vat lo g v P) : ∃ g' r, f_RG_exactly (cb g x l p n u c A s d E) (some v) w = some (some r, (cb g' x l p n u c A s d E)) ∧ Ext 0 g g' ∧ Rat lo g' r w (fun Q => cmpP Q P 12 0 = 0) := by
  have hx : x + 14 ≤ g.2 := Nat.le_trans hlo hg
  refine ⟨hp_push g (.inr (5, [.int w, va_rf (some v), .int 0, va_rf (some v), .int 0])), g.2, ?_, Ext.push _, hg, by rw [hp_push_2]; omega, some v, some v, 0, 0, P, P, ?_, fun a ha => by cases ha; exact hv.ext (Ext.push _), fun a ha => by cases ha; exact hv.ext (Ext.push _), fun Q => ?_⟩
  · unfold f_RG_exactly
    simp only [cb_push hx, Option.bind_some, cb_2]
    rw [cl_newRange hx hw (Or.inl rfl) (Or.inl rfl), Option.bind_some]
  · rw [hp_push_1, if_pos rfl]
  · constructor
    · intro h
      exact ⟨Or.inr (Or.inr ⟨h, rfl⟩), Or.inr (Or.inr ⟨h, rfl⟩)⟩
    · rintro ⟨h | h | h, h'⟩
      · cases h
      · rcases h' with h' | h' | h'
        · cases h'
        · exact absurd (Int32.lt_trans h h') (by decide)
        · exact h'.1
      · exact h.1
/-- what takeRange answers -/
def TkR (lo : Nat) (g : hp_H) (c : Nat → Int32) (a len : Nat) (g' : hp_H) (o : Option Nat) (b : Nat) : Prop := Ext 0 g g' ∧ b ≤ len ∧ (∀ r, o = some r → b = len → RgP c a len ∧ Rat lo g' r (zi (VrP c a len)) (HdP c a len)) ∧ (RgP c a len → ∃ r, o = some r ∧ b = len)
theorem TkR.no {g' : hp_H} {a len b : Nat} (he : Ext 0 g g') (hb : b ≤ len) (hno : ¬ RgP c a len) : TkR lo g c a len g' none b := ⟨he, hb, (fun r h => by cases h), fun h => absurd h hno⟩
theorem fx_comma {a k len : Nat} (h1 : a ≤ k) (h2 : k < len) (h3 : c k = 44) (h4 : ∀ j, a ≤ j → j < k → c j ≠ 44) : fx c 44 a (len - a) = k := fx_eq h1 (by omega) h4 (fun _ => h3)
/-- behind the comma at k, the upper bound's end being known: the closing bracket -/
theorem cl_rest_31 {a k b len : Nat} {L H : Option Nat} {PL PH : Nat → Int64} (hlo : x + 14 ≤ lo) (hg : lo ≤ g.2) (hl : len ≤ 40) (hca : c a = 91 ∨ c a = 40) (hak : a + 1 ≤ k) (hk : k < len) (hck : c k = 44) (hnk : ∀ j, a ≤ j → j < k → c j ≠ 44)
    (hL : (k = a + 1 ∧ L = none) ∨ (VrP c (a + 1) k ∧ ∃ v, L = some v ∧ Vat lo g v PL)) (hPL : PL = prt (sh c (a + 1)) (k - (a + 1)))
    (hb : b ≤ len) (hH : (b = k + 1 ∧ H = none) ∨ (VrP c (k + 1) b ∧ ∃ v, H = some v ∧ Vat lo g v PH)) (hPH : PH = prt (sh c (k + 1)) (b - (k + 1))) (hmax : RgP c a len → b = len - 1) :
    ∃ g' o b', f_LN_takeRestOfRange_L31 (x + 1) L (zi (c a = 40)) H (cb g x (nI len) (nI b) n u c A s d E) = some (o, (cb g' x (nI len) (nI b') n u c A s d E)) ∧ TkR lo g c a len g' o b' := by
  have hx : x + 14 ≤ g.2 := Nat.le_trans hlo hg
  have hfx := fx_comma (by omega) hk hck hnk
  have hnV : ¬ VrP c a len := by
    intro z
    have := z.2.2.1
    rcases hca with w | w <;> rw [w] at this <;> exact absurd this (by decide)
  have hkb : k + 1 ≤ b := by
    rcases hH with z | z
    · omega
    · have := z.1.1; omega
  have fin : ∀ (hq : Int32) (hc : c b = 93 ∨ c b = 41), b < len → hq = zi (c b = 41) → TkR lo g c a len (hp_push g (.inr (5, [.int 0, va_rf L, .int (zi (c a = 40)), va_rf H, .int hq]))) (some g.2) (b + 1) := by
    intro hq hc hbl hhq
    refine ⟨Ext.push _, by omega, fun r hr hbl1 => ?_, fun hR => ⟨g.2, rfl, by have := hmax hR; omega⟩⟩
    cases hr
    have eb : len - 1 = b := by omega
    have hlow : k = a + 1 ∨ VrP c (a + 1) k := hL.elim (fun z => Or.inl z.1) (fun z => Or.inr z.1)
    refine ⟨Or.inr ⟨by omega, hca, by rw [eb]; exact hc, Or.inr ⟨by rw [hfx]; omega, by rw [hfx]; exact hlow, ?_⟩⟩, hg, by rw [hp_push_2]; omega, L, H, zi (c a = 40), hq, PL, PH, ?_, ?_, ?_, fun P => ?_⟩
    · rw [hfx, eb]
      rcases hH with z | z
      · left; omega
      · exact Or.inr z.1
    · rw [hp_push_1, if_pos rfl, zi_0 hnV]
    · intro v hv
      rcases hL with z | ⟨_, v', z1, z2⟩
      · rw [z.2] at hv; cases hv
      · rw [z1] at hv; cases hv; exact z2.ext (Ext.push _)
    · intro v hv
      rcases hH with z | ⟨_, v', z1, z2⟩
      · rw [z.2] at hv; cases hv
      · rw [z1] at hv; cases hv; exact z2.ext (Ext.push _)
    · have e1 : (L = none) ↔ k = a + 1 := by
        rcases hL with z | ⟨z0, v', z1, z2⟩
        · exact ⟨fun _ => z.1, fun _ => z.2⟩
        · exact ⟨(fun w => by rw [z1] at w; cases w), fun w => absurd z0.1 (by omega)⟩
      have e2 : (H = none) ↔ k = len - 2 := by
        rcases hH with z | ⟨z0, v', z1, z2⟩
        · exact ⟨fun _ => by omega, fun _ => z.2⟩
        · exact ⟨(fun w => by rw [z1] at w; cases w), fun w => absurd z0.1 (by omega)⟩
      unfold HdP
      rw [hfx, eb, e1, e2, ← hPL, ← hPH, hhq, zi_eq0, zi_eq0]
      constructor
      · rintro (z | ⟨_, z | z⟩)
        · exact absurd z.1 hnV
        · exact absurd z.1 (by omega)
        · exact z.2
      · intro z
        exact Or.inr ⟨hnV, Or.inr ⟨by omega, z⟩⟩
  unfold f_LN_takeRestOfRange_L31
  simp only [cb_o1, Option.bind_some]
  by_cases h1 : b < len ∧ c b = 41
  · rw [cl_take_1 hl h1.1 h1.2, Option.bind_some, if_neg (show ¬ (1 : Int32) = 0 by decide)]
    simp only [cb_push hx, cb_2, Option.bind_some]
    rw [cl_newRange hx (Or.inl rfl) zi_z (Or.inr rfl), Option.bind_some]
    exact ⟨_, _, _, rfl, fin 1 (Or.inr h1.2) h1.1 (zi_1 h1.2).symm⟩
  · rw [cl_take_0 hl hb h1, Option.bind_some, if_pos rfl]
    by_cases h2 : b < len ∧ c b = 93
    · simp only [cb_o1, Option.bind_some]
      rw [cl_take_1 hl h2.1 h2.2, Option.bind_some, if_neg (show ¬ (1 : Int32) = 0 by decide)]
      simp only [cb_push hx, cb_2, Option.bind_some]
      rw [cl_newRange hx (Or.inl rfl) zi_z (Or.inl rfl), Option.bind_some]
      exact ⟨_, _, _, rfl, fin 0 (Or.inl h2.2) h2.1 (zi_0 (fun z => h1 ⟨h2.1, z⟩)).symm⟩
    · simp only [cb_o1, Option.bind_some]
      rw [cl_take_0 hl hb h2, Option.bind_some, if_pos rfl]
      refine ⟨_, _, _, rfl, TkR.no Ext.rfl' hb fun hR => ?_⟩
      have hb1 := hmax hR
      rcases hR with z | ⟨z0, z1, z2, z3⟩
      · exact hnV z
      · rw [← hb1] at z2
        rcases z2 with z2 | z2
        · exact h2 ⟨by omega, z2⟩
        · exact h1 ⟨by omega, z2⟩
end CLR2
