/-! ===== an abstract heap: what is known of the cells, by address, and the first free address ===== -/
abbrev hp_E : Type := (Nat × vp_A) ⊕ (Nat × List Value)
abbrev hp_H : Type := (Nat → Option hp_E) × Nat
abbrev hp_G : Type := va_G × (Nat → ClassId)
def hp_va (G : hp_G) (e : hp_E) : va_E := match e with
  | .inl x => .inl (G.2 x.1, x.2)
  | .inr o => .inr o
def hp_tys (G : hp_G) (aT : List FieldType) : List (ClassId × FieldType) := aT.mapIdx (fun k t => (G.2 k, t))
theorem hp_tys_at {G : hp_G} {aT : List FieldType} {k : Nat} {ty : FieldType} (h : aT[k]? = some ty) : (hp_tys G aT)[k]? = some (G.2 k, ty) := by
  simp [hp_tys, h]
def hp_up (h : hp_H) (a : Nat) (e : hp_E) : hp_H := (fun q => if q = a then some e else h.1 q, h.2)
def hp_push (h : hp_H) (e : hp_E) : hp_H := (fun q => if q = h.2 then some e else h.1 q, h.2 + 1)
theorem hp_up_1 (h : hp_H) (a b : Nat) (e : hp_E) : (hp_up h a e).1 b = if b = a then some e else h.1 b := rfl
theorem hp_up_2 (h : hp_H) (a : Nat) (e : hp_E) : (hp_up h a e).2 = h.2 := rfl
theorem hp_push_1 (h : hp_H) (b : Nat) (e : hp_E) : (hp_push h e).1 b = if b = h.2 then some e else h.1 b := rfl
theorem hp_push_2 (h : hp_H) (e : hp_E) : (hp_push h e).2 = h.2 + 1 := rfl
def hp_ok (G : hp_G) (cl : List vw_C) (B : Nat) (h : hp_H) (H : Heap) : Prop := H.size = h.2 ∧ B ≤ h.2 ∧ ∀ (a : Nat) (e : hp_E), h.1 a = some e → B ≤ a ∧ va_at G.1 cl (a, hp_va G e) H
/-- in a method that began with the heap H0 -/
def hp_I (G : hp_G) (cl : List vw_C) (B : Nat) (H0 : Heap) (h : hp_H) (H : Heap) (locs : List Loc) : Prop := hp_ok G cl B h H ∧ B ≤ H0.size ∧ va_S (fun q => B ≤ q) H0 H locs
theorem hp_ok.put {G : hp_G} {cl : List vw_C} {B : Nat} {h : hp_H} {H H1 : Heap} {a : Nat} {e : hp_E} (hk : hp_ok G cl B h H) (hB : B ≤ a) (he : va_at G.1 cl (a, hp_va G e) H1) (z : H1.size = H.size) (oq : ∀ q : Nat, q ≠ a → H1[q]? = H[q]?) : hp_ok G cl B (hp_up h a e) H1 := by
  refine ⟨z.trans hk.1, hk.2.1, fun b e' hb => ?_⟩
  by_cases hba : b = a
  · subst hba
    rw [hp_up_1, if_pos rfl] at hb
    cases hb
    exact ⟨hB, he⟩
  · rw [hp_up_1, if_neg hba] at hb
    exact ⟨(hk.2.2 b e' hb).1, (hk.2.2 b e' hb).2.kept (oq b hba)⟩
theorem hp_ok.push {G : hp_G} {cl : List vw_C} {B : Nat} {h : hp_H} {H H1 : Heap} {e : hp_E} (hk : hp_ok G cl B h H) (he : va_at G.1 cl (h.2, hp_va G e) H1) (z : H1.size = H.size + 1) (oq : ∀ q : Nat, q < H.size → H1[q]? = H[q]?) : hp_ok G cl B (hp_push h e) H1 := by
  refine ⟨by rw [z, hk.1]; rfl, Nat.le_succ_of_le hk.2.1, fun b e' hb => ?_⟩
  by_cases hba : b = h.2
  · subst hba
    rw [hp_push_1, if_pos rfl] at hb
    cases hb
    exact ⟨hk.2.1, he⟩
  · rw [hp_push_1, if_neg hba] at hb
    exact ⟨(hk.2.2 b e' hb).1, (hk.2.2 b e' hb).2.kept (oq b ((hk.2.2 b e' hb).2.lt))⟩
theorem hp_I.put {G : hp_G} {cl : List vw_C} {B : Nat} {h : hp_H} {H0 H H1 : Heap} {locs : List Loc} {a k : Nat} {e0 e : hp_E} (I : hp_I G cl B H0 h H locs) (h0 : h.1 a = some e0) (he : va_at G.1 cl (a, hp_va G e) H1) (z : H1.size = H.size) (oq : ∀ q : Nat, q ≠ a → H1[q]? = H[q]?) : hp_I G cl B H0 (hp_up h a e) H1 (locs ++ [⟨a, k⟩]) :=
  ⟨I.1.put (I.1.2.2 a e0 h0).1 he z oq, I.2.1, I.2.2.put z oq (I.1.2.2 a e0 h0).1⟩
theorem hp_I.push {G : hp_G} {cl : List vw_C} {B : Nat} {h : hp_H} {H0 H H1 : Heap} {locs : List Loc} {e : hp_E} (I : hp_I G cl B H0 h H locs) (he : va_at G.1 cl (h.2, hp_va G e) H1) (z : H1.size = H.size + 1) (oq : ∀ q : Nat, q < H.size → H1[q]? = H[q]?) : hp_I G cl B H0 (hp_push h e) H1 locs :=
  ⟨I.1.push he z oq, I.2.1, Nat.le_trans I.2.2.1 (by omega), fun x h1 h2 => (oq x (Nat.lt_of_lt_of_le h1 I.2.2.1)).trans (I.2.2.2.1 x h1 h2), I.2.2.2.2⟩
theorem hp_one {G : hp_G} {cl : List vw_C} {B : Nat} {h : hp_H} {H : Heap} {a : Nat} {e : hp_E} (hk : hp_ok G cl B h H) (ha : h.1 a = some e) : va_P G.1 cl [(a, hp_va G e)] H := by
  intro k q hq
  match k, hq with
  | 0, hq => cases hq; exact (hk.2.2 a e ha).2
  | k + 1, hq => simp at hq
/-! what the steps read and write of it; none: the step isn't known to go through -/
def hp_f (h : hp_H) (r : Option Nat) (ci k : Nat) : Option Value := r.bind fun a => match h.1 a with
  | some (.inr o) => if o.1 = ci then o.2[k]? else none
  | _ => none
theorem hp_f_inv {h : hp_H} {r : Option Nat} {ci k : Nat} {v : Value} (hv : hp_f h r ci k = some v) : ∃ (a : Nat) (fs : List Value), r = some a ∧ h.1 a = some (.inr (ci, fs)) ∧ fs[k]? = some v := by
  unfold hp_f at hv
  cases r with
  | none => simp at hv
  | some a =>
    simp only [Option.bind_some] at hv
    cases ha : h.1 a with
    | none => rw [ha] at hv; simp at hv
    | some e =>
      rw [ha] at hv
      cases e with
      | inl x => simp at hv
      | inr o =>
        obtain ⟨c, fs⟩ := o
        simp only at hv
        split at hv
        · rename_i hc; subst hc; exact ⟨a, fs, rfl, ha, hv⟩
        · simp at hv
def hp_vI (v : Value) : Option Int32 := match v with
  | .int x => some x
  | _ => none
def hp_vL (v : Value) : Option Int64 := match v with
  | .long x => some x
  | _ => none
def hp_vR (v : Value) : Option (Option Nat) := match v with
  | .null => some none
  | .ref a => some (some a)
  | _ => none
theorem hp_vI_inv {v : Value} {x : Int32} (h : hp_vI v = some x) : v = .int x := by
  cases v <;> simp [hp_vI] at h <;> simp [h]
theorem hp_vL_inv {v : Value} {x : Int64} (h : hp_vL v = some x) : v = .long x := by
  cases v <;> simp [hp_vL] at h <;> simp [h]
theorem hp_vR_inv {v : Value} {x : Option Nat} (h : hp_vR v = some x) : v = va_rf x := by
  cases v <;> simp [hp_vR] at h <;> subst h <;> rfl
def hp_fI (h : hp_H) (r : Option Nat) (ci k : Nat) : Option Int32 := (hp_f h r ci k).bind hp_vI
def hp_fL (h : hp_H) (r : Option Nat) (ci k : Nat) : Option Int64 := (hp_f h r ci k).bind hp_vL
def hp_fR (h : hp_H) (r : Option Nat) (ci k : Nat) : Option (Option Nat) := (hp_f h r ci k).bind hp_vR
def hp_s (h : hp_H) (r : Option Nat) (ci k : Nat) (v : Value) : Option hp_H := r.bind fun a => match h.1 a with
  | some (.inr o) => if o.1 = ci ∧ k < o.2.length then some (hp_up h a (.inr (ci, o.2.set k v))) else none
  | _ => none
theorem hp_s_inv {h h' : hp_H} {r : Option Nat} {ci k : Nat} {v : Value} (hv : hp_s h r ci k v = some h') : ∃ (a : Nat) (fs : List Value), r = some a ∧ h.1 a = some (.inr (ci, fs)) ∧ k < fs.length ∧ h' = hp_up h a (.inr (ci, fs.set k v)) := by
  unfold hp_s at hv
  cases r with
  | none => simp at hv
  | some a =>
    simp only [Option.bind_some] at hv
    cases ha : h.1 a with
    | none => rw [ha] at hv; simp at hv
    | some e =>
      rw [ha] at hv
      cases e with
      | inl x => simp at hv
      | inr o =>
        obtain ⟨c, fs⟩ := o
        simp only at hv
        split at hv
        · rename_i hc
          obtain ⟨rfl, hl⟩ := hc
          exact ⟨a, fs, rfl, ha, hl, (Option.some.inj hv).symm⟩
        · simp at hv
/-- a boolean is 0 or 1 -/
def hp_z (x : Int32) : Option Int32 := if x = 0 ∨ x = 1 then some x else none
theorem hp_z_inv {x y : Int32} (h : hp_z x = some y) : y = x ∧ (x = 0 ∨ x = 1) := by
  unfold hp_z at h
  split at h
  · rename_i hx; exact ⟨(Option.some.inj h).symm, hx⟩
  · simp at h
theorem hp_z_nar {x : Int32} (h : x = 0 ∨ x = 1) : narrow .boolean (.int x) = .int x ∧ fits .boolean (.int x) = true := by
  rcases h with rfl | rfl <;> exact ⟨by rfl, by rfl⟩
def hp_a (h : hp_H) (r : Option Nat) (t : Nat) : Option (Nat × vp_A) := r.bind fun a => match h.1 a with
  | some (.inl x) => if x.1 = t then some (a, x.2) else none
  | _ => none
theorem hp_a_inv {h : hp_H} {r : Option Nat} {t : Nat} {q : Nat × vp_A} (hv : hp_a h r t = some q) : r = some q.1 ∧ h.1 q.1 = some (.inl (t, q.2)) := by
  unfold hp_a at hv
  cases r with
  | none => simp at hv
  | some a =>
    simp only [Option.bind_some] at hv
    cases ha : h.1 a with
    | none => rw [ha] at hv; simp at hv
    | some e =>
      rw [ha] at hv
      cases e with
      | inr o => simp at hv
      | inl x =>
        obtain ⟨c, y⟩ := x
        simp only at hv
        split at hv
        · rename_i hc; subst hc; cases hv; exact ⟨rfl, ha⟩
        · simp at hv
def hp_ix (i : Int32) (n : Nat) : Option Nat := if i < 0 ∨ n ≤ i.toNatClampNeg then none else some i.toNatClampNeg
theorem hp_ix_inv {i : Int32} {n j : Nat} (h : hp_ix i n = some j) : j = i.toNatClampNeg ∧ vp_in i n := by
  unfold hp_ix at h
  split at h
  · simp at h
  · rename_i hx; exact ⟨(Option.some.inj h).symm, hx⟩
def hp_cI (x : vp_A) : Option (Nat × (Nat → Int32)) := match x with
  | (n, .inl f) => some (n, f)
  | _ => none
def hp_cL (x : vp_A) : Option (Nat × (Nat → Int64)) := match x with
  | (n, .inr (.inl f)) => some (n, f)
  | _ => none
def hp_cR (x : vp_A) : Option (Nat × (Nat → Option Nat)) := match x with
  | (n, .inr (.inr (.inr (.inr f)))) => some (n, f)
  | _ => none
theorem hp_cI_inv {x : vp_A} {q : Nat × (Nat → Int32)} (h : hp_cI x = some q) : x = (q.1, .inl q.2) := by
  obtain ⟨n, f | f | f | f | f⟩ := x <;> simp [hp_cI] at h <;> subst h <;> rfl
theorem hp_cL_inv {x : vp_A} {q : Nat × (Nat → Int64)} (h : hp_cL x = some q) : x = (q.1, .inr (.inl q.2)) := by
  obtain ⟨n, f | f | f | f | f⟩ := x <;> simp [hp_cL] at h <;> subst h <;> rfl
theorem hp_cR_inv {x : vp_A} {q : Nat × (Nat → Option Nat)} (h : hp_cR x = some q) : x = (q.1, .inr (.inr (.inr (.inr q.2)))) := by
  obtain ⟨n, f | f | f | f | f⟩ := x <;> simp [hp_cR] at h <;> subst h <;> rfl
def hp_aI (h : hp_H) (r : Option Nat) (t : Nat) (i : Int32) : Option Int32 := (hp_a h r t).bind fun q => (hp_cI q.2).bind fun x => (hp_ix i x.1).map x.2
def hp_aL (h : hp_H) (r : Option Nat) (t : Nat) (i : Int32) : Option Int64 := (hp_a h r t).bind fun q => (hp_cL q.2).bind fun x => (hp_ix i x.1).map x.2
def hp_aR (h : hp_H) (r : Option Nat) (t : Nat) (i : Int32) : Option (Option Nat) := (hp_a h r t).bind fun q => (hp_cR q.2).bind fun x => (hp_ix i x.1).map x.2
def hp_len (h : hp_H) (r : Option Nat) (t : Nat) : Option Int32 := (hp_a h r t).map fun q => Int32.ofNat q.2.1
def hp_sI (h : hp_H) (r : Option Nat) (t : Nat) (i x : Int32) : Option hp_H := (hp_a h r t).bind fun q => (hp_cI q.2).bind fun y => (hp_ix i y.1).map fun j => hp_up h q.1 (.inl (t, y.1, .inl (va_up y.2 j x)))
def hp_sL (h : hp_H) (r : Option Nat) (t : Nat) (i : Int32) (x : Int64) : Option hp_H := (hp_a h r t).bind fun q => (hp_cL q.2).bind fun y => (hp_ix i y.1).map fun j => hp_up h q.1 (.inl (t, y.1, .inr (.inl (va_up y.2 j x))))
/-- what may go into an array of references to objects of class ci -/
def hp_is (h : hp_H) (v : Option Nat) (ci : Nat) : Bool := match v with
  | none => true
  | some b => match h.1 b with
    | some (.inr o) => o.1 == ci
    | _ => false
def hp_sR (h : hp_H) (r : Option Nat) (t ci : Nat) (i : Int32) (v : Option Nat) : Option hp_H := if hp_is h v ci = true then (hp_a h r t).bind fun q => (hp_cR q.2).bind fun y => (hp_ix i y.1).map fun j => hp_up h q.1 (.inl (t, y.1, .inr (.inr (.inr (.inr (va_up y.2 j v)))))) else none
/-- a new array's length, at most mx -/
def hp_nn (n : Int32) (mx : Nat) : Option Nat := if n < 0 ∨ mx < n.toNatClampNeg then none else some n.toNatClampNeg
theorem hp_nn_inv {n : Int32} {mx N : Nat} (h : hp_nn n mx = some N) : ¬ n < 0 ∧ n.toNatClampNeg = N ∧ N ≤ mx := by
  unfold hp_nn at h
  split at h
  · simp at h
  · rename_i hx
    have e := Option.some.inj h
    refine ⟨fun q => hx (Or.inl q), e, ?_⟩
    rw [← e]
    exact Nat.not_lt.mp fun q => hx (Or.inr q)
/-- System.arraycopy between two arrays of one kind of ints -/
def hp_cpy (h : hp_H) (r0 : Option Nat) (t : Nat) (ty : FieldType) (sp : Int32) (r1 : Option Nat) (dp n : Int32) : Option hp_H :=
  (hp_a h r0 t).bind fun q0 => (hp_cI q0.2).bind fun x0 => (hp_a h r1 t).bind fun q1 => (hp_cI q1.2).bind fun x1 =>
    if (¬ sp < 0 ∧ ¬ dp < 0 ∧ ¬ n < 0 ∧ sp.toNatClampNeg + n.toNatClampNeg ≤ x0.1 ∧ dp.toNatClampNeg + n.toNatClampNeg ≤ x1.1) ∧ (∀ i, i < n.toNatClampNeg → fits ty (.int (x0.2 (sp.toNatClampNeg + i))) = true)
    then some (hp_up h q1.1 (.inl (t, x1.1, .inl (va_cpy x0.2 x1.2 sp.toNatClampNeg dp.toNatClampNeg n.toNatClampNeg)))) else none
/-- an object of class ci -/
def hp_o (h : hp_H) (r : Option Nat) (ci : Nat) : Option Nat := r.bind fun a => match h.1 a with
  | some (.inr o) => if o.1 = ci then some a else none
  | _ => none
theorem hp_o_inv {h : hp_H} {r : Option Nat} {ci b : Nat} (hv : hp_o h r ci = some b) : r = some b ∧ ∃ fs : List Value, h.1 b = some (.inr (ci, fs)) := by
  unfold hp_o at hv
  cases r with
  | none => simp at hv
  | some a =>
    simp only [Option.bind_some] at hv
    cases ha : h.1 a with
    | none => rw [ha] at hv; simp at hv
    | some e =>
      rw [ha] at hv
      cases e with
      | inl x => simp at hv
      | inr o =>
        obtain ⟨c, fs⟩ := o
        simp only at hv
        split at hv
        · rename_i hc; subst hc; cases hv; exact ⟨rfl, fs, ha⟩
        · simp at hv
/-- an int that is none of lo .. hi -/
theorem hq_tab {x : Int32} (lo hi : Int32) {l h : Int} (hl : lo.toInt = l) (hh : hi.toInt = h) (hle : l ≤ h) (hn : ∀ k : Int, l ≤ k → k ≤ h → ¬ x = Int32.ofInt k) : x.toInt < l ∨ h < x.toInt := by
  by_cases h1 : x.toInt < l
  · exact Or.inl h1
  · by_cases h2 : h < x.toInt
    · exact Or.inr h2
    · exact absurd (by simp) (hn x.toInt (by omega) (by omega))
/-! ===== the machine's steps over the abstract heap ===== -/
/-- what the tables say of nest mates' methods and of arrays over classes -/
def hq_X (U : State) : Prop := (∀ q ∈ hq_nw, va_Nw (.methodLinkNest q.1 q.2.1 q.2.2.1 q.2.2.2) U) ∧ ∀ E ∈ hq_ov, va_AO E U
theorem hq_X.warm {s U : State} (hW : s.WarmedH U.vm) (h : hq_X s) : hq_X U := ⟨fun q hq => va_Nw.warmM hW (h.1 q hq), fun E hE => (h.2 E hE).moved hW.alike⟩
theorem hq_X.same {s U : State} (hv : s.vm = U.vm) (h : hq_X s) : hq_X U := ⟨fun q hq => va_Nw.same rfl hv (h.1 q hq), fun E hE => (h.2 E hE).moved (by rw [← hv]; exact Vm.Alike.refl s.vm)⟩
/-- what holds all through a method's body -/
def hq_C (p : Program) (s : State) (m : MethodId) (args : Array Value) (meth : Method) (c : Code) (cc : ByteArray) (nL : Nat) (ret : Option FieldType) (own nm : String) (gt : List Cond) (G : hp_G) (cl : List vw_C) (aT : List FieldType) : Prop :=
  (CallFix p m c cc nL s args gt own) ∧ va_K G.1 cl (hp_tys G aT) s ∧ meth.sig.returnType = ret ∧ meth.locks = false ∧ meth.name = nm ∧ hq_X s
/-- a class of the worlds -/
def hq_K (gt : List Cond) (cl : List vw_C) (ci : Nat) (C : String) (T : u_T) (N : Nat) (ty0 : Nat → FieldType) : Prop :=
  cl[ci]? = some (C, T, N) ∧ (∀ w ∈ u_ws C T N, w ∈ gt) ∧ (∀ k, k < N → parseFieldDescriptor (T k).2.2.1 = some (ty0 k)) ∧ (∀ a, a < N → ∀ b, b < N → a ≠ b → (T a).2.1 ≠ (T b).2.1)
/-- a field, by its place in own's constant pool -/
def hq_F (gt : List Cond) (cl : List vw_C) (own : String) (idx ci k : Nat) (fin : Bool) (ty : FieldType) : Prop :=
  ∃ (C : String) (T : u_T) (N : Nat) (ty0 : Nat → FieldType), hq_K gt cl ci C T N ty0 ∧ k < N ∧ Cond.fieldLink own idx (T k).1 (T k).2.1 (T k).2.2.1 ∈ gt ∧ (T k).2.2.2 = fin ∧ parseFieldDescriptor (T k).2.2.1 = some ty
section HQ
variable {p : Program} {l : Launch} {e : Env} {R : Room} {s : State} {m : MethodId} {args : Array Value} {below : List Frame} {meth : Method} {c : Code} {H : Heap} {locs : List Loc} {cells slots : Nat} {Q : State → Prop}
variable {cc : ByteArray} {pc : Nat} {ls : Array Slot} {rest : List Value} {G : hp_G} {cl : List vw_C} {aT : List FieldType} {gt : List Cond} {own nm : String} {nL : Nat} {ret : Option FieldType} {B : Nat} {H0 : Heap} {h : hp_H}
theorem hq_get (C : hq_C p s m args meth c cc nL ret own nm gt G cl aT) (I : hp_I G cl B H0 h H locs) {idx ci k : Nat} {fin : Bool} {ty : FieldType} (F : hq_F gt cl own idx ci k fin ty) {r : Option Nat} {v : Value} (hv : hp_f h r ci k = some v) (hdg : decode cc pc = .ok (.getfield idx, 3))
    (kk : W p l e R s m args below meth c H locs cells slots Q (F0 m (pc + 3) ls (v :: rest))) : W p l e R s m args below meth c H locs cells slots Q (F0 m pc ls (va_rf r :: rest)) := by
  obtain ⟨⟨hx, hb, hml, hown, hts⟩, hK, -⟩ := C
  obtain ⟨Cn, T, N, ty0, ⟨hc, hin, -, -⟩, hk, hl, -, -⟩ := F
  obtain ⟨a, fs, rfl, ha, hf⟩ := hp_f_inv hv
  exact va_get (D := G.1) (ws := [(a, .inr (ci, fs))]) hx hb hts hin hown hK (hp_one I.1 ha) 0 rfl hc k hk (hts _ hl) (fun _ h9 => h9) hf hdg kk
theorem hq_getI (C : hq_C p s m args meth c cc nL ret own nm gt G cl aT) (I : hp_I G cl B H0 h H locs) {idx ci k : Nat} {fin : Bool} {ty : FieldType} (F : hq_F gt cl own idx ci k fin ty) {r : Option Nat} {v : Int32} (hv : hp_fI h r ci k = some v) (hdg : decode cc pc = .ok (.getfield idx, 3))
    (kk : W p l e R s m args below meth c H locs cells slots Q (F0 m (pc + 3) ls (.int v :: rest))) : W p l e R s m args below meth c H locs cells slots Q (F0 m pc ls (va_rf r :: rest)) := by
  obtain ⟨w, h1, h2⟩ := Option.bind_eq_some_iff.mp hv
  cases hp_vI_inv h2
  exact hq_get C I F h1 hdg kk
theorem hq_getL (C : hq_C p s m args meth c cc nL ret own nm gt G cl aT) (I : hp_I G cl B H0 h H locs) {idx ci k : Nat} {fin : Bool} {ty : FieldType} (F : hq_F gt cl own idx ci k fin ty) {r : Option Nat} {v : Int64} (hv : hp_fL h r ci k = some v) (hdg : decode cc pc = .ok (.getfield idx, 3))
    (kk : W p l e R s m args below meth c H locs cells slots Q (F0 m (pc + 3) ls (.long v :: rest))) : W p l e R s m args below meth c H locs cells slots Q (F0 m pc ls (va_rf r :: rest)) := by
  obtain ⟨w, h1, h2⟩ := Option.bind_eq_some_iff.mp hv
  cases hp_vL_inv h2
  exact hq_get C I F h1 hdg kk
theorem hq_getR (C : hq_C p s m args meth c cc nL ret own nm gt G cl aT) (I : hp_I G cl B H0 h H locs) {idx ci k : Nat} {fin : Bool} {ty : FieldType} (F : hq_F gt cl own idx ci k fin ty) {r : Option Nat} {v : Option Nat} (hv : hp_fR h r ci k = some v) (hdg : decode cc pc = .ok (.getfield idx, 3))
    (kk : W p l e R s m args below meth c H locs cells slots Q (F0 m (pc + 3) ls (va_rf v :: rest))) : W p l e R s m args below meth c H locs cells slots Q (F0 m pc ls (va_rf r :: rest)) := by
  obtain ⟨w, h1, h2⟩ := Option.bind_eq_some_iff.mp hv
  cases hp_vR_inv h2
  exact hq_get C I F h1 hdg kk
theorem hq_put (C : hq_C p s m args meth c cc nL ret own nm gt G cl aT) (I : hp_I G cl B H0 h H locs) {idx ci k : Nat} {ty : FieldType} (F : hq_F gt cl own idx ci k false ty) {r : Option Nat} {v : Value} {h' : hp_H} (hv : hp_s h r ci k v = some h') (hn : narrow ty v = v) (hfit : fits ty v = true) (hdg : decode cc pc = .ok (.putfield idx, 3))
    (kk : ∀ (H1 : Heap) (locs1 : List Loc), hp_I G cl B H0 h' H1 locs1 → W p l e R s m args below meth c H1 locs1 cells slots Q (F0 m (pc + 3) ls rest)) : W p l e R s m args below meth c H locs cells slots Q (F0 m pc ls (v :: va_rf r :: rest)) := by
  obtain ⟨⟨hx, hb, hml, hown, hts⟩, hK, -⟩ := C
  obtain ⟨Cn, T, N, ty0, ⟨hc, hin, hty, hnm⟩, hk, hl, hfin, hd⟩ := F
  obtain ⟨a, fs, rfl, ha, hlen, rfl⟩ := hp_s_inv hv
  have hap := va_apart (own := own) hts hin ty0 hty hnm hK hc
  obtain ⟨r', h1, cell, q1, q2, q3, q4⟩ := (I.1.2.2 a _ ha).2
  have hr : r' = (Cn, T, N) := Option.some.inj (h1.symm.trans hc)
  subst hr
  obtain ⟨hS, hfc, kC, hkC, hkind⟩ := hK.1 ci _ hc
  obtain ⟨cf, kf, fi, f, hi, hsl⟩ := hS k hk
  have hlay := hts _ (hin _ (u_in_lay hk))
  unfold u_lay at hlay
  rw [if_neg (by rw [hfin]; decide)] at hlay
  have hst := (u_facts hfc hkC (u_lays hts hin hk) hi).1
  refine W.putK hx hb (f := f) ⟨hown, hts _ hl, ⟨_, _, _, hi⟩, hst⟩ (by rw [q2]; exact u_store hfc hkC hkind hlay hi hd hn hfit) q1 q3 (by rw [hsl]; exact k2_hasslot (q4 k hk)) rfl rfl hdg fun H' e1 e2 e3 => ?_
  rw [hsl] at e1 ⊢
  exact kk H' _ (I.put (e := .inr (ci, fs.set k v)) ha ⟨_, hc, t_OB.to (V := updV (vp_V fs) k v) ⟨_, e1, q2, q3, t_set q4 hap hk v⟩ (fun j _ => vp_updV_set hlen v j)⟩ e2 e3)
theorem hq_putF (C : hq_C p s m args meth c cc nL ret own "<init>" gt G cl aT) (I : hp_I G cl B H0 h H locs) {idx ci k : Nat} {ty : FieldType} (F : hq_F gt cl own idx ci k true ty) (hdecl : ∀ (r : vw_C), cl[ci]? = some r → (r.2.1 k).1 = own) {r : Option Nat} {v : Value} {h' : hp_H} (hv : hp_s h r ci k v = some h') (hn : narrow ty v = v) (hfit : fits ty v = true) (hdg : decode cc pc = .ok (.putfield idx, 3))
    (kk : ∀ (H1 : Heap) (locs1 : List Loc), hp_I G cl B H0 h' H1 locs1 → W p l e R s m args below meth c H1 locs1 cells slots Q (F0 m (pc + 3) ls rest)) : W p l e R s m args below meth c H locs cells slots Q (F0 m pc ls (v :: va_rf r :: rest)) := by
  obtain ⟨⟨hx, hb, hml, hown, hts⟩, hK, -, -, hin2, -⟩ := C
  obtain ⟨Cn, T, N, ty0, ⟨hc, hin, hty, hnm⟩, hk, hl, hfin, hd⟩ := F
  have hdecl : (T k).1 = own := hdecl _ hc
  obtain ⟨a, fs, rfl, ha, hlen, rfl⟩ := hp_s_inv hv
  have hap := va_apart (own := own) hts hin ty0 hty hnm hK hc
  obtain ⟨r', h1, cell, q1, q2, q3, q4⟩ := (I.1.2.2 a _ ha).2
  have hr : r' = (Cn, T, N) := Option.some.inj (h1.symm.trans hc)
  subst hr
  obtain ⟨hS, hfc, kC, hkC, hkind⟩ := hK.1 ci _ hc
  obtain ⟨cf, kf, fi, f, hi, hsl⟩ := hS k hk
  have hlay := hts _ (hin _ (u_in_lay hk))
  unfold u_lay at hlay
  rw [if_pos hfin] at hlay
  have hst := (u_facts hfc hkC (u_lays hts hin hk) hi).1
  have hcf : m.cls = cf := by
    obtain ⟨_, _, c', _, _, _, -, -, hf', -, -, -, hown2, -⟩ := Cond.laysFinal_spec hlay
    have e1 : c' = cf := by have := hi.symm.trans hf'; simp at this; exact this.1.symm
    rw [hdecl] at hown2
    rw [← e1]; exact Option.some.inj (hown.symm.trans hown2)
  refine W.putFinK hx hb hown (hts _ hl) hi hst hcf hin2 (by rw [q2]; exact u_fits hfc hkC hkind (Or.inr hlay) hi hd hn hfit) q1 q3 (by rw [hsl]; exact k2_hasslot (q4 k hk)) rfl rfl hdg fun H' e1 e2 e3 => ?_
  rw [hsl] at e1 ⊢
  exact kk H' _ (I.put (e := .inr (ci, fs.set k v)) ha ⟨_, hc, t_OB.to (V := updV (vp_V fs) k v) ⟨_, e1, q2, q3, t_set q4 hap hk v⟩ (fun j _ => vp_updV_set hlen v j)⟩ e2 e3)
theorem hq_rff (C : String) (r : Option Nat) : narrow (.object C) (va_rf r) = va_rf r ∧ fits (.object C) (va_rf r) = true := by
  cases r <;> exact ⟨rfl, rfl⟩
theorem hq_rfa (t : FieldType) (r : Option Nat) : narrow (.array t) (va_rf r) = va_rf r ∧ fits (.array t) (va_rf r) = true := by
  cases r <;> exact ⟨rfl, rfl⟩
/-! arrays -/
theorem hq_arr (C : hq_C p s m args meth c cc nL ret own nm gt G cl aT) {t : Nat} {ty : FieldType} (ht : aT[t]? = some ty) : ArrOfT s (G.2 t) ty ∧ va_RA s (G.2 t) ty := C.2.1.2 t _ (hp_tys_at ht)
theorem hq_iald (C : hq_C p s m args meth c cc nL ret own nm gt G cl aT) (I : hp_I G cl B H0 h H locs) {t : Nat} (ht : aT[t]? = some .int) {r : Option Nat} {i v : Int32} (hv : hp_aI h r t i = some v) (hdg : decode cc pc = .ok (.iaload, 1))
    (kk : W p l e R s m args below meth c H locs cells slots Q (F0 m (pc + 1) ls (.int v :: rest))) : W p l e R s m args below meth c H locs cells slots Q (F0 m pc ls (.int i :: va_rf r :: rest)) := by
  obtain ⟨q, h1, h2⟩ := Option.bind_eq_some_iff.mp hv
  obtain ⟨x, h3, h4⟩ := Option.bind_eq_some_iff.mp h2
  obtain ⟨j, h5, rfl⟩ := Option.map_eq_some_iff.mp h4
  obtain ⟨rfl, h6⟩ := hp_a_inv h1
  obtain ⟨rfl, hin⟩ := hp_ix_inv h5
  rw [hp_cI_inv h3] at h6
  exact va_iald (D := G.1) (ws := [(q.1, .inl (G.2 t, x.1, .inl x.2))]) C.1.1 C.1.2.1 C.2.1 (hp_one I.1 h6) 0 t rfl (hp_tys_at ht) hin hdg kk
theorem hq_cald (C : hq_C p s m args meth c cc nL ret own nm gt G cl aT) (I : hp_I G cl B H0 h H locs) {t : Nat} (ht : aT[t]? = some .char) {r : Option Nat} {i v : Int32} (hv : hp_aI h r t i = some v) (hdg : decode cc pc = .ok (.caload, 1))
    (kk : W p l e R s m args below meth c H locs cells slots Q (F0 m (pc + 1) ls (.int v :: rest))) : W p l e R s m args below meth c H locs cells slots Q (F0 m pc ls (.int i :: va_rf r :: rest)) := by
  obtain ⟨q, h1, h2⟩ := Option.bind_eq_some_iff.mp hv
  obtain ⟨x, h3, h4⟩ := Option.bind_eq_some_iff.mp h2
  obtain ⟨j, h5, rfl⟩ := Option.map_eq_some_iff.mp h4
  obtain ⟨rfl, h6⟩ := hp_a_inv h1
  obtain ⟨rfl, hin⟩ := hp_ix_inv h5
  rw [hp_cI_inv h3] at h6
  exact va_cald (D := G.1) (ws := [(q.1, .inl (G.2 t, x.1, .inl x.2))]) C.1.1 C.1.2.1 C.2.1 (hp_one I.1 h6) 0 t rfl (hp_tys_at ht) hin hdg kk
theorem hq_zald (C : hq_C p s m args meth c cc nL ret own nm gt G cl aT) (I : hp_I G cl B H0 h H locs) {t : Nat} (ht : aT[t]? = some .boolean) {r : Option Nat} {i v : Int32} (hv : hp_aI h r t i = some v) (hdg : decode cc pc = .ok (.baload, 1))
    (kk : W p l e R s m args below meth c H locs cells slots Q (F0 m (pc + 1) ls (.int v :: rest))) : W p l e R s m args below meth c H locs cells slots Q (F0 m pc ls (.int i :: va_rf r :: rest)) := by
  obtain ⟨q, h1, h2⟩ := Option.bind_eq_some_iff.mp hv
  obtain ⟨x, h3, h4⟩ := Option.bind_eq_some_iff.mp h2
  obtain ⟨j, h5, rfl⟩ := Option.map_eq_some_iff.mp h4
  obtain ⟨rfl, h6⟩ := hp_a_inv h1
  obtain ⟨rfl, hin⟩ := hp_ix_inv h5
  rw [hp_cI_inv h3] at h6
  exact va_zald (D := G.1) (ws := [(q.1, .inl (G.2 t, x.1, .inl x.2))]) C.1.1 C.1.2.1 C.2.1 (hp_one I.1 h6) 0 t rfl (hp_tys_at ht) hin hdg kk
theorem hq_lald (C : hq_C p s m args meth c cc nL ret own nm gt G cl aT) (I : hp_I G cl B H0 h H locs) {t : Nat} (ht : aT[t]? = some .long) {r : Option Nat} {i : Int32} {v : Int64} (hv : hp_aL h r t i = some v) (hdg : decode cc pc = .ok (.laload, 1))
    (kk : W p l e R s m args below meth c H locs cells slots Q (F0 m (pc + 1) ls (.long v :: rest))) : W p l e R s m args below meth c H locs cells slots Q (F0 m pc ls (.int i :: va_rf r :: rest)) := by
  obtain ⟨q, h1, h2⟩ := Option.bind_eq_some_iff.mp hv
  obtain ⟨x, h3, h4⟩ := Option.bind_eq_some_iff.mp h2
  obtain ⟨j, h5, rfl⟩ := Option.map_eq_some_iff.mp h4
  obtain ⟨rfl, h6⟩ := hp_a_inv h1
  obtain ⟨rfl, hin⟩ := hp_ix_inv h5
  rw [hp_cL_inv h3] at h6
  exact va_lald (D := G.1) (ws := [(q.1, .inl (G.2 t, x.1, .inr (.inl x.2)))]) C.1.1 C.1.2.1 C.2.1 (hp_one I.1 h6) 0 t rfl (hp_tys_at ht) hin hdg kk
theorem hq_aald (C : hq_C p s m args meth c cc nL ret own nm gt G cl aT) (I : hp_I G cl B H0 h H locs) {t : Nat} {E : String} (ht : aT[t]? = some (.object E)) {r : Option Nat} {i : Int32} {v : Option Nat} (hv : hp_aR h r t i = some v) (hdg : decode cc pc = .ok (.aaload, 1))
    (kk : W p l e R s m args below meth c H locs cells slots Q (F0 m (pc + 1) ls (va_rf v :: rest))) : W p l e R s m args below meth c H locs cells slots Q (F0 m pc ls (.int i :: va_rf r :: rest)) := by
  obtain ⟨q, h1, h2⟩ := Option.bind_eq_some_iff.mp hv
  obtain ⟨x, h3, h4⟩ := Option.bind_eq_some_iff.mp h2
  obtain ⟨j, h5, rfl⟩ := Option.map_eq_some_iff.mp h4
  obtain ⟨rfl, h6⟩ := hp_a_inv h1
  obtain ⟨rfl, hin⟩ := hp_ix_inv h5
  rw [hp_cR_inv h3] at h6
  exact va_aldq (D := G.1) (ws := [(q.1, .inl (G.2 t, x.1, .inr (.inr (.inr (.inr x.2)))))]) C.1.1 C.1.2.1 C.2.1 (hp_one I.1 h6) 0 t rfl (hp_tys_at ht) hin hdg kk
theorem hq_alen (C : hq_C p s m args meth c cc nL ret own nm gt G cl aT) (I : hp_I G cl B H0 h H locs) {t : Nat} {ty : FieldType} (ht : aT[t]? = some ty) {r : Option Nat} {v : Int32} (hv : hp_len h r t = some v) (hdg : decode cc pc = .ok (.arraylength, 1))
    (kk : W p l e R s m args below meth c H locs cells slots Q (F0 m (pc + 1) ls (.int v :: rest))) : W p l e R s m args below meth c H locs cells slots Q (F0 m pc ls (va_rf r :: rest)) := by
  obtain ⟨q, h1, h2⟩ := Option.map_eq_some_iff.mp hv
  obtain ⟨rfl, h6⟩ := hp_a_inv h1
  exact va_alen (D := G.1) (ws := [(q.1, .inl (G.2 t, q.2))]) C.1.1 C.1.2.1 C.2.1 (hp_one I.1 h6) 0 t rfl (hp_tys_at ht) h2 hdg kk
theorem hq_iast (C : hq_C p s m args meth c cc nL ret own nm gt G cl aT) (I : hp_I G cl B H0 h H locs) {t : Nat} (ht : aT[t]? = some .int) {r : Option Nat} {i x : Int32} {h' : hp_H} (hv : hp_sI h r t i x = some h') (hdg : decode cc pc = .ok (.iastore, 1))
    (kk : ∀ (H1 : Heap) (locs1 : List Loc), hp_I G cl B H0 h' H1 locs1 → W p l e R s m args below meth c H1 locs1 cells slots Q (F0 m (pc + 1) ls rest)) : W p l e R s m args below meth c H locs cells slots Q (F0 m pc ls (.int x :: .int i :: va_rf r :: rest)) := by
  obtain ⟨q, h1, h2⟩ := Option.bind_eq_some_iff.mp hv
  obtain ⟨y, h3, h4⟩ := Option.bind_eq_some_iff.mp h2
  obtain ⟨j, h5, rfl⟩ := Option.map_eq_some_iff.mp h4
  obtain ⟨rfl, h6⟩ := hp_a_inv h1
  obtain ⟨rfl, hin⟩ := hp_ix_inv h5
  rw [hp_cI_inv h3] at h6
  refine W.iast C.1.1 C.1.2.1 (hp_one I.1 h6 0 _ rfl) ((hq_arr C ht).1 y.1 (fun j => .int (y.2 j))) (fun q => by cases q) (by show ¬ (i < 0 ∨ (arrV _ _ _).slots.size ≤ _); rw [arrV_size]; exact hin) rfl rfl hdg fun H1 e z oq => ?_
  refine kk H1 _ (I.put (k := i.toNatClampNeg) h6 ?_ z oq)
  show H1[q.1]? = some (vp_cell _ _)
  rw [e]
  show some ((vp_cell (G.2 t) (y.1, .inl y.2)).setSlot _ _) = _
  rw [vp_cell_i, vp_cell_i, arrV_store]
  congr 2
  funext w
  by_cases hw : w = i.toNatClampNeg
  · subst hw; simp [updV, va_up]
  · simp [updV, va_up, hw]
theorem hq_cast (C : hq_C p s m args meth c cc nL ret own nm gt G cl aT) (I : hp_I G cl B H0 h H locs) {t : Nat} (ht : aT[t]? = some .char) {r : Option Nat} {i x : Int32} {h' : hp_H} (hv : hp_sI h r t i (vp_nar .char x) = some h') (hdg : decode cc pc = .ok (.castore, 1))
    (kk : ∀ (H1 : Heap) (locs1 : List Loc), hp_I G cl B H0 h' H1 locs1 → W p l e R s m args below meth c H1 locs1 cells slots Q (F0 m (pc + 1) ls rest)) : W p l e R s m args below meth c H locs cells slots Q (F0 m pc ls (.int x :: .int i :: va_rf r :: rest)) := by
  obtain ⟨q, h1, h2⟩ := Option.bind_eq_some_iff.mp hv
  obtain ⟨y, h3, h4⟩ := Option.bind_eq_some_iff.mp h2
  obtain ⟨j, h5, rfl⟩ := Option.map_eq_some_iff.mp h4
  obtain ⟨rfl, h6⟩ := hp_a_inv h1
  obtain ⟨rfl, hin⟩ := hp_ix_inv h5
  rw [hp_cI_inv h3] at h6
  refine W.cast C.1.1 C.1.2.1 (hp_one I.1 h6 0 _ rfl) ((hq_arr C ht).1 y.1 (fun j => .int (y.2 j))) (fun q => by cases q) (by show ¬ (i < 0 ∨ (arrV _ _ _).slots.size ≤ _); rw [arrV_size]; exact hin) rfl rfl hdg fun H1 e z oq => ?_
  refine kk H1 _ (I.put (k := i.toNatClampNeg) h6 ?_ z oq)
  show H1[q.1]? = some (vp_cell _ _)
  rw [e]
  show some ((vp_cell (G.2 t) (y.1, .inl y.2)).setSlot _ _) = _
  rw [vp_cell_i, vp_cell_i, arrV_store]
  congr 2
  funext w
  by_cases hw : w = i.toNatClampNeg
  · subst hw; simp [updV, va_up, vp_nar, narrow]
  · simp [updV, va_up, hw]
theorem hq_zast (C : hq_C p s m args meth c cc nL ret own nm gt G cl aT) (I : hp_I G cl B H0 h H locs) {t : Nat} (ht : aT[t]? = some .boolean) {r : Option Nat} {i x : Int32} {h' : hp_H} (hv : hp_sI h r t i (vp_nar .boolean x) = some h') (hdg : decode cc pc = .ok (.bastore, 1))
    (kk : ∀ (H1 : Heap) (locs1 : List Loc), hp_I G cl B H0 h' H1 locs1 → W p l e R s m args below meth c H1 locs1 cells slots Q (F0 m (pc + 1) ls rest)) : W p l e R s m args below meth c H locs cells slots Q (F0 m pc ls (.int x :: .int i :: va_rf r :: rest)) := by
  obtain ⟨q, h1, h2⟩ := Option.bind_eq_some_iff.mp hv
  obtain ⟨y, h3, h4⟩ := Option.bind_eq_some_iff.mp h2
  obtain ⟨j, h5, rfl⟩ := Option.map_eq_some_iff.mp h4
  obtain ⟨rfl, h6⟩ := hp_a_inv h1
  obtain ⟨rfl, hin⟩ := hp_ix_inv h5
  rw [hp_cI_inv h3] at h6
  refine W.zast C.1.1 C.1.2.1 (hp_one I.1 h6 0 _ rfl) ((hq_arr C ht).1 y.1 (fun j => .int (y.2 j))) (fun q => by cases q) (by show ¬ (i < 0 ∨ (arrV _ _ _).slots.size ≤ _); rw [arrV_size]; exact hin) rfl rfl hdg fun H1 e z oq => ?_
  refine kk H1 _ (I.put (k := i.toNatClampNeg) h6 ?_ z oq)
  show H1[q.1]? = some (vp_cell _ _)
  rw [e]
  show some ((vp_cell (G.2 t) (y.1, .inl y.2)).setSlot _ _) = _
  rw [vp_cell_i, vp_cell_i, arrV_store]
  congr 2
  funext w
  by_cases hw : w = i.toNatClampNeg
  · subst hw; simp [updV, va_up, vp_nar, narrow]
  · simp [updV, va_up, hw]
theorem hq_last (C : hq_C p s m args meth c cc nL ret own nm gt G cl aT) (I : hp_I G cl B H0 h H locs) {t : Nat} (ht : aT[t]? = some .long) {r : Option Nat} {i : Int32} {x : Int64} {h' : hp_H} (hv : hp_sL h r t i x = some h') (hdg : decode cc pc = .ok (.lastore, 1))
    (kk : ∀ (H1 : Heap) (locs1 : List Loc), hp_I G cl B H0 h' H1 locs1 → W p l e R s m args below meth c H1 locs1 cells slots Q (F0 m (pc + 1) ls rest)) : W p l e R s m args below meth c H locs cells slots Q (F0 m pc ls (.long x :: .int i :: va_rf r :: rest)) := by
  obtain ⟨q, h1, h2⟩ := Option.bind_eq_some_iff.mp hv
  obtain ⟨y, h3, h4⟩ := Option.bind_eq_some_iff.mp h2
  obtain ⟨j, h5, rfl⟩ := Option.map_eq_some_iff.mp h4
  obtain ⟨rfl, h6⟩ := hp_a_inv h1
  obtain ⟨rfl, hin⟩ := hp_ix_inv h5
  rw [hp_cL_inv h3] at h6
  refine W.last C.1.1 C.1.2.1 (hp_one I.1 h6 0 _ rfl) ((hq_arr C ht).1 y.1 (fun j => .long (y.2 j))) (fun q => by cases q) (by show ¬ (i < 0 ∨ (arrV _ _ _).slots.size ≤ _); rw [arrV_size]; exact hin) rfl rfl hdg fun H1 e z oq => ?_
  refine kk H1 _ (I.put (k := i.toNatClampNeg) h6 ?_ z oq)
  show H1[q.1]? = some (vp_cell _ _)
  rw [e]
  show some ((vp_cell (G.2 t) (y.1, .inr (.inl y.2))).setSlot _ _) = _
  rw [vp_cell_l, vp_cell_l, arrV_store]
  congr 2
  funext w
  by_cases hw : w = i.toNatClampNeg
  · subst hw; simp [updV, va_up]
  · simp [updV, va_up, hw]
theorem hq_aast (C : hq_C p s m args meth c cc nL ret own nm gt G cl aT) (I : hp_I G cl B H0 h H locs) {t ci : Nat} {rc : vw_C} (ht : aT[t]? = some (.object rc.1)) (hc : cl[ci]? = some rc) {r v : Option Nat} {i : Int32} {h' : hp_H} (hv : hp_sR h r t ci i v = some h') (hdg : decode cc pc = .ok (.aastore, 1))
    (kk : ∀ (H1 : Heap) (locs1 : List Loc), hp_I G cl B H0 h' H1 locs1 → W p l e R s m args below meth c H1 locs1 cells slots Q (F0 m (pc + 1) ls rest)) : W p l e R s m args below meth c H locs cells slots Q (F0 m pc ls (va_rf v :: .int i :: va_rf r :: rest)) := by
  unfold hp_sR at hv
  split at hv
  case isFalse => simp at hv
  rename_i his
  obtain ⟨q, h1, h2⟩ := Option.bind_eq_some_iff.mp hv
  obtain ⟨y, h3, h4⟩ := Option.bind_eq_some_iff.mp h2
  obtain ⟨j, h5, rfl⟩ := Option.map_eq_some_iff.mp h4
  obtain ⟨rfl, h6⟩ := hp_a_inv h1
  obtain ⟨rfl, hin⟩ := hp_ix_inv h5
  rw [hp_cR_inv h3] at h6
  have hlt : i.toNatClampNeg < y.1 := Nat.not_le.mp fun q => hin (Or.inr q)
  have h0 : ¬ i < 0 := fun q => hin (Or.inl q)
  have hfin : ∀ H1 : Heap, H1[q.1]? = some ((vp_cell (G.2 t) (y.1, .inr (.inr (.inr (.inr y.2))))).setSlot i.toNatClampNeg (va_rf v)) → va_at G.1 cl (q.1, hp_va G (.inl (t, y.1, .inr (.inr (.inr (.inr (va_up y.2 i.toNatClampNeg v))))))) H1 := by
    intro H1 e
    show H1[q.1]? = some (vp_cell _ _)
    rw [e]
    rw [vp_cell_q, vp_cell_q, arrV_store]
    congr 2
    funext w
    by_cases hw : w = i.toNatClampNeg
    · subst hw; simp [updV, va_up]
    · simp [updV, va_up, hw]
  cases v with
  | none =>
    refine va_WaastN (C := rc.1) C.1.1 C.1.2.1 (hp_one I.1 h6 0 _ rfl) ((hq_arr C ht).1 y.1 (fun j => va_rf (y.2 j))) (fun h => by cases h) (by show ¬ (i < 0 ∨ (arrV _ _ _).slots.size ≤ _); rw [arrV_size]; exact hin) rfl rfl hdg fun H1 e z oq => ?_
    exact kk H1 _ (I.put (k := i.toNatClampNeg) h6 (hfin H1 e) z oq)
  | some b =>
    have hb : ∃ fs, h.1 b = some (.inr (ci, fs)) := by
      unfold hp_is at his
      cases hb : h.1 b with
      | none => simp [hb] at his
      | some e =>
        cases e with
        | inl x => simp [hb] at his
        | inr o =>
          obtain ⟨c', fs⟩ := o
          simp [hb] at his
          subst his
          exact ⟨fs, rfl⟩
    obtain ⟨fs, hb⟩ := hb
    obtain ⟨r', hr', cellV, g1, g2, g3, -⟩ := (I.1.2.2 b _ hb).2
    have hcls := (C.2.1.1 ci rc hc).2
    obtain ⟨kA, comp, k1, k2, k3, -⟩ := (hq_arr C ht).2
    have hcomp : comp = G.1.1 ci := Option.some.inj (k3.symm.trans hcls.1)
    subst hcomp
    obtain ⟨kC, hkC, -⟩ := hcls.2
    refine W.aast C.1.1 C.1.2.1 (hp_one I.1 h6 0 _ rfl) (fun q h => by cases h) (fun h => by cases h) k1 k2 rfl hkC ⟨h0, by show _ < (arrV _ _ _).slots.size; rw [arrV_size]; exact hlt⟩ g1 (fun q h => by rw [g3] at h; cases h) (by rw [g2]; exact hkC) (by rw [g2]; exact va_assign hcls) rfl rfl hdg fun H1 e z oq => ?_
    exact kk H1 _ (I.put (k := i.toNatClampNeg) h6 (hfin H1 e) z oq)
/-! what is made -/
theorem hq_new (C : hq_C p s m args meth c cc nL ret own nm gt G cl aT) (I : hp_I G cl B H0 h H locs) {idx ci N : Nat} {Cn : String} {T : u_T} {ty0 : Nat → FieldType} (K : hq_K gt cl ci Cn T N ty0) (hcl : Cond.classLink own idx Cn ∈ gt) (hinst : Cond.instantiable Cn N ∈ gt) (hini : Cond.initialized Cn ∈ gt) {fs : List Value} (hfs : ∀ j, j < N → defaultValue (ty0 j) = vp_V fs j) (hcells : cells + 1 ≤ R.cells) (hslots : slots + N ≤ R.slots) (hdg : decode cc pc = .ok (.new idx, 3))
    (kk : ∀ (H1 : Heap), hp_I G cl B H0 (hp_push h (.inr (ci, fs))) H1 locs → W p l e R s m args below meth c H1 locs (cells + 1) (slots + N) Q (F0 m (pc + 3) ls (va_rf (some h.2) :: rest))) : W p l e R s m args below meth c H locs cells slots Q (F0 m pc ls rest) := by
  obtain ⟨⟨hx, hb, hml, hown, hts⟩, hK, -⟩ := C
  obtain ⟨hc, hin, hty, -⟩ := K
  have hKn := hK.1 ci _ hc
  refine W.newcK hx hb hown (hts _ hcl) (hts _ hinst) (hts _ hini) rfl hdg hcells hslots hKn.2.1 I.1.1 fun H1 kC hkC e1 z1 o1 => ?_
  exact kk H1 (I.push ⟨_, hc, (u_born ty0 hts hin hKn hkC e1 hty).to hfs⟩ (by rw [z1, I.1.1]) (fun q hq => o1 q (by rw [← I.1.1]; exact hq)))
theorem hq_newa (C : hq_C p s m args meth c cc nL ret own nm gt G cl aT) (I : hp_I G cl B H0 h H locs) {t : Nat} {atype : ArrayType} {ty : FieldType} (ht : aT[t]? = some ty) (hty : newarray.typeOf atype = ty) (harr : Cond.arrayClass ty ∈ gt) {n : Int32} {N mx : Nat} {x : (Nat → Int32) ⊕ (Nat → Int64) ⊕ (Nat → UInt32) ⊕ (Nat → UInt64) ⊕ (Nat → Option Nat)} (ha : ∀ cA : ClassId, vp_cell cA (N, x) = arrV cA N (fun _ => defaultValue ty)) (hn : ¬ n < 0) (hN : n.toNatClampNeg = N) (hmx : N ≤ mx) (hby : mx * componentBytes ty ≤ 536870912) (hcells : cells + 1 ≤ R.cells) (hslots : slots + mx ≤ R.slots) (hdg : decode cc pc = .ok (.newarray atype, 2))
    (kk : ∀ (H1 : Heap), hp_I G cl B H0 (hp_push h (.inl (t, N, x))) H1 locs → W p l e R s m args below meth c H1 locs (cells + 1) (slots + mx) Q (F0 m (pc + 2) ls (va_rf (some h.2) :: rest))) : W p l e R s m args below meth c H locs cells slots Q (F0 m pc ls (.int n :: rest)) := by
  obtain ⟨⟨hx, hb, hml, hown, hts⟩, hK, -⟩ := id C
  have hra := (hq_arr C ht).2
  have hrr : s.vm.findClass ("[" ++ ty.toString) = some (G.2 t) := by
    subst hty
    cases atype <;> exact hra
  subst hty
  refine va_newaK hx hb (hts _ harr) rfl hdg rfl hn hN (Nat.le_trans (Nat.mul_le_mul_right _ hmx) hby) hcells (Nat.le_trans (Nat.add_le_add_left hmx _) hslots) I.1.1 fun H1 cA e1 z1 o1 hAr hNm => ?_
  have hcA : cA = G.2 t := Option.some.inj (hNm.symm.trans hrr)
  subst hcA
  refine W.widen (k := cells + 1) (n := slots + mx) (Nat.le_refl _) (Nat.add_le_add_left hmx _) ?_
  refine kk H1 (I.push ?_ (by rw [z1, I.1.1]) (fun q hq => o1 q (by rw [← I.1.1]; exact hq)))
  show H1[h.2]? = some (vp_cell _ _)
  rw [e1, ha]
theorem hq_newq (C : hq_C p s m args meth c cc nL ret own nm gt G cl aT) (I : hp_I G cl B H0 h H locs) {t idx : Nat} {E : String} (ht : aT[t]? = some (.object E)) (hcl : Cond.classLink own idx E ∈ gt) (hover : E ∈ hq_ov) {n : Int32} {N mx : Nat} (hn : ¬ n < 0) (hN : n.toNatClampNeg = N) (hmx : N ≤ mx) (hby : mx * 4 ≤ 536870912) (hcells : cells + 1 ≤ R.cells) (hslots : slots + mx ≤ R.slots) (hdg : decode cc pc = .ok (.anewarray idx, 3))
    (kk : ∀ (H1 : Heap), hp_I G cl B H0 (hp_push h (.inl (t, N, .inr (.inr (.inr (.inr (fun _ => none))))))) H1 locs → W p l e R s m args below meth c H1 locs (cells + 1) (slots + mx) Q (F0 m (pc + 3) ls (va_rf (some h.2) :: rest))) : W p l e R s m args below meth c H locs cells slots Q (F0 m pc ls (.int n :: rest)) := by
  obtain ⟨⟨hx, hb, hml, hown, hts⟩, hK, -⟩ := id C
  obtain ⟨kA', comp', -, -, -, hrr⟩ := (hq_arr C ht).2
  have hsz := I.1.1
  subst hN
  refine W.anew hx hb hown (hts _ hcl) (va_AO.use (C.2.2.2.2.2.2 E hover)) rfl hdg rfl hn (Nat.le_trans (Nat.mul_le_mul_right _ hmx) hby) hcells (Nat.le_trans (Nat.add_le_add_left hmx _) hslots) fun cA kA comp f1 f2 f3 f4 => ?_
  have hcA : cA = G.2 t := Option.some.inj (f1.symm.trans hrr)
  subst hcA
  refine W.widen (k := cells + 1) (n := slots + mx) (Nat.le_refl _) (Nat.add_le_add_left hmx _) ?_
  have hpush := kk (H.push ({ cls := G.2 t, slots := Array.replicate n.toNatClampNeg .null, vm := .none } : Cell)) (I.push ?_ (by simp) (fun q hq => by rw [Array.getElem?_push, if_neg (Nat.ne_of_lt hq)]))
  · rw [← hsz] at hpush
    exact hpush
  · show (H.push _)[h.2]? = some (vp_cell _ _)
    rw [← hsz, Array.getElem?_push_size, vp_cell_q, ← arrV_new]
    rfl
theorem hq_copy (C : hq_C p s m args meth c cc nL ret own nm gt G cl aT) (hsz : ls.size = nL) (I : hp_I G cl B H0 h H locs) {t idx : Nat} {ty : FieldType} (ht : aT[t]? = some ty) (hprim : refKind ty = false) (hlink : Cond.methodLink own idx arraycopyName ∈ gt) (hnat : Cond.native arraycopyName ∈ gt) (hstat : Cond.static arraycopyName ∈ gt) (hini : Cond.initialized "java/lang/System" ∈ gt) {r0 r1 : Option Nat} {sp dp n : Int32} {h' : hp_H} (hv : hp_cpy h r0 t ty sp r1 dp n = some h')
    (hframes : 1 ≤ R.frames) (hlocals : (rest.map fun v => v.category).sum + (nativeFrameWords "java/lang/System" "arraycopy" 5 + 11) ≤ R.locals) (hdg : decode cc pc = .ok (.invokestatic idx, 3))
    (kk : ∀ (H1 : Heap) (locs1 : List Loc), hp_I G cl B H0 h' H1 locs1 → W p l e R s m args below meth c H1 locs1 cells slots Q (F0 m (pc + 3) ls rest)) : W p l e R s m args below meth c H locs cells slots Q (F0 m pc ls (.int n :: .int dp :: va_rf r1 :: .int sp :: va_rf r0 :: rest)) := by
  obtain ⟨⟨hx, hb, hml, hown, hts⟩, hK, -⟩ := id C
  obtain ⟨q0, g1, g2⟩ := Option.bind_eq_some_iff.mp hv
  obtain ⟨x0, g3, g4⟩ := Option.bind_eq_some_iff.mp g2
  obtain ⟨q1, g5, g6⟩ := Option.bind_eq_some_iff.mp g4
  obtain ⟨x1, g7, g8⟩ := Option.bind_eq_some_iff.mp g6
  split at g8
  case isFalse => simp at g8
  rename_i hcond
  obtain ⟨⟨h1, h2, h3, h4, h5⟩, hfit⟩ := hcond
  cases g8
  obtain ⟨rfl, a0⟩ := hp_a_inv g1
  obtain ⟨rfl, a1⟩ := hp_a_inv g5
  rw [hp_cI_inv g3] at a0
  rw [hp_cI_inv g7] at a1
  have nn : ∀ z : Int32, ¬ z < 0 → z.toInt = (z.toNatClampNeg : Int) := by
    intro z hz
    have hz0 : (0 : Int) ≤ z.toInt := by
      have := Int32.not_lt.mp hz
      simpa using Int32.le_iff_toInt_le.mp this
    show z.toInt = ((z.toInt.toNat : Nat) : Int)
    omega
  intro T hT X
  have hc0 : H[q0.1]? = some (vp_cell (G.2 t) (x0.1, .inl x0.2)) := hp_one I.1 a0 0 _ rfl
  have hc1 : H[q1.1]? = some (vp_cell (G.2 t) (x1.1, .inl x1.2)) := hp_one I.1 a1 0 _ rfl
  obtain ⟨-, k0, hk0, cm0, hkk0⟩ := (hq_arr C ht).1 x0.1 (fun j => .int (x0.2 j))
  obtain ⟨vm', X', step⟩ := X.arraycopy hx hown (hts _ hlink) (hts _ hnat) (hts _ hstat) (hts _ hini) (src := q0.1) (dst := q1.1) (cs := vp_cell (G.2 t) (x0.1, .inl x0.2)) (cd := vp_cell (G.2 t) (x1.1, .inl x1.2)) (srcPos := sp) (destPos := dp) (n := n) (by rw [hT]; exact hc0) (by rw [hT]; exact hc1)
    (fun _ h => by cases h) (fun _ h => by cases h) (fun h => by cases h) (fun h => by cases h) hk0 hk0 hkk0 hkk0 (by simp [hprim]) h1 h2 h3
    (by rw [nn sp h1, nn n h3]; show ¬ _ > ((arrV (G.2 t) x0.1 (fun j => .int (x0.2 j))).slots.size : Int); rw [arrV_size]; omega)
    (by rw [nn dp h2, nn n h3]; show ¬ _ > ((arrV (G.2 t) x1.1 (fun j => .int (x1.2 j))).slots.size : Int); rw [arrV_size]; omega)
    (fun vm₁ _ i hi => by
      have e : (vp_cell (G.2 t) (x0.1, .inl x0.2)).slots.getD (sp.toNatClampNeg + i) .null = .int (x0.2 (sp.toNatClampNeg + i)) := by
        show (arrV (G.2 t) x0.1 (fun j => .int (x0.2 j))).slots.getD _ _ = _
        rw [Array.getD_eq_getD_getElem?, arrV_read _ _ (by omega)]
        rfl
      refine ⟨?_, ?_⟩
      · rw [e]
        exact hfit i hi
      · rw [e]
        exact trivial)
    (g := F0 m pc ls (.int n :: .int dp :: .ref q1.1 :: .int sp :: .ref q0.1 :: rest)) rfl (by rw [hml]; exact hsz) (rest := rest) rfl (by rw [hb]; exact hdg) hframes (by show 2 * 0 + _ + _ ≤ _; omega)
  have e1 : copied (vp_cell (G.2 t) (x0.1, .inl x0.2)) (vp_cell (G.2 t) (x1.1, .inl x1.2)) sp dp n = vp_cell (G.2 t) (x1.1, .inl (va_cpy x0.2 x1.2 sp.toNatClampNeg dp.toNatClampNeg n.toNatClampNeg)) := va_copied (fun z => .int z) (G.2 t) (G.2 t) x0.2 x1.2 h4
  rw [e1] at X' step
  have hl : q1.1 < H.size := (Array.getElem?_eq_some_iff.mp hc1).1
  have hheap : ((T.setVm vm').setCell q1.1 (vp_cell (G.2 t) (x1.1, .inl (va_cpy x0.2 x1.2 sp.toNatClampNeg dp.toNatClampNeg n.toNatClampNeg)))).heap = H.setIfInBounds q1.1 (vp_cell (G.2 t) (x1.1, .inl (va_cpy x0.2 x1.2 sp.toNatClampNeg dp.toNatClampNeg n.toNatClampNeg))) := by rw [← hT]; rfl
  have oq : ∀ q : Nat, q ≠ q1.1 → (H.setIfInBounds q1.1 (vp_cell (G.2 t) (x1.1, .inl (va_cpy x0.2 x1.2 sp.toNatClampNeg dp.toNatClampNeg n.toNatClampNeg))))[q]? = H[q]? := fun q hq => by simp [Array.getElem?_setIfInBounds, Ne.symm hq]
  have hB : B ≤ q1.1 := (I.1.2.2 _ _ a1).1
  obtain ⟨t2, b1, b2⟩ := kk _ _ ⟨I.1.put hB (show (H.setIfInBounds q1.1 _)[q1.1]? = some _ by simp [Array.getElem?_setIfInBounds, hl]) (by simp) oq, I.2.1, by simp; exact I.2.2.1, fun q g1 g2 => by
      rw [oq q (fun e => g2 (by rw [e]; exact hB))]
      exact I.2.2.2.1 q g1 g2, fun q hq => by
      rcases List.mem_append.mp hq with h | h
      · exact I.2.2.2.2 q h
      · obtain ⟨z, -, hz⟩ := List.mem_map.mp h
        rw [← hz]
        exact hB⟩ _ hheap X'
  exact ⟨t2, step t2 b1, b2⟩
/-! locals and branches over references that may be null -/
theorem hq_aload_n (hexec : p.tables.exec = Jvm.exec) (hb : c.code = cc) {k : Fin 4} {i : Nat} {r : Option Nat} (hdg : decode cc pc = .ok (.aload_n k, 1)) (hi : (k : Nat) = i) (hl : ls[i]? = some (.val (va_rf r)))
    (kk : W p l e R s m args below meth c H locs cells slots Q (F0 m (pc + 1) ls (va_rf r :: rest))) : W p l e R s m args below meth c H locs cells slots Q (F0 m pc ls rest) := by
  cases r with
  | none => exact lv_aload_nN hexec hb hdg hi hl kk
  | some a => exact lv_aload_n hexec hb hdg hi hl kk
theorem hq_aload (hexec : p.tables.exec = Jvm.exec) (hb : c.code = cc) {i : Nat} {r : Option Nat} (hdg : decode cc pc = .ok (.aload i, 2)) (hl : ls[i]? = some (.val (va_rf r)))
    (kk : W p l e R s m args below meth c H locs cells slots Q (F0 m (pc + 2) ls (va_rf r :: rest))) : W p l e R s m args below meth c H locs cells slots Q (F0 m pc ls rest) := by
  cases r with
  | none => exact lv_aloadN hexec hb hdg hl kk
  | some a => exact lv_aload hexec hb hdg hl kk
theorem hq_astore_n (hexec : p.tables.exec = Jvm.exec) (hb : c.code = cc) {k : Fin 4} {i n : Nat} {r : Option Nat} {lv lv' : List (Nat × Value)} (hdg : decode cc pc = .ok (.astore_n k, 1)) (hi : (k : Nat) = i) (hh : lv_has ls n lv) (hn : i < n) (hl : (i, va_rf r) :: lv.filter (fun q => !(q.1 == i) && !(q.1 + 1 == i && q.2.category == 2)) = lv')
    (kk : ∀ ls' : Array Slot, lv_has ls' n lv' → W p l e R s m args below meth c H locs cells slots Q (F0 m (pc + 1) ls' rest)) : W p l e R s m args below meth c H locs cells slots Q (F0 m pc ls (va_rf r :: rest)) := by
  cases r with
  | none => exact lv_astore_nN hexec hb hdg hi hh hn hl kk
  | some a => exact lv_astore_n hexec hb hdg hi hh hn hl kk
theorem hq_astore (hexec : p.tables.exec = Jvm.exec) (hb : c.code = cc) {i n : Nat} {r : Option Nat} {lv lv' : List (Nat × Value)} (hdg : decode cc pc = .ok (.astore i, 2)) (hh : lv_has ls n lv) (hn : i < n) (hl : (i, va_rf r) :: lv.filter (fun q => !(q.1 == i) && !(q.1 + 1 == i && q.2.category == 2)) = lv')
    (kk : ∀ ls' : Array Slot, lv_has ls' n lv' → W p l e R s m args below meth c H locs cells slots Q (F0 m (pc + 2) ls' rest)) : W p l e R s m args below meth c H locs cells slots Q (F0 m pc ls (va_rf r :: rest)) := by
  cases r with
  | none => exact lv_astoreN hexec hb hdg hh hn hl kk
  | some a => exact lv_astore hexec hb hdg hh hn hl kk
theorem hq_cat (r : Option Nat) : (va_rf r).category = 1 := by cases r <;> rfl
theorem hq_ifnull (hexec : p.tables.exec = Jvm.exec) (hb : c.code = cc) {r : Option Nat} {off : Int} {tgt : Nat} (hdg : decode cc pc = .ok (.ifnull off, 3)) (ht : (pc : Int) + off = (tgt : Int)) (kt : r = none → W p l e R s m args below meth c H locs cells slots Q (F0 m tgt ls rest)) (kf : ¬ r = none → W p l e R s m args below meth c H locs cells slots Q (F0 m (pc + 3) ls rest)) : W p l e R s m args below meth c H locs cells slots Q (F0 m pc ls (va_rf r :: rest)) := by
  cases r with
  | none => exact lv_ifnullN hexec hb hdg ht (kt rfl)
  | some a => exact lv_ifnull hexec hb hdg (kf (by simp))
theorem hq_ifnonnull (hexec : p.tables.exec = Jvm.exec) (hb : c.code = cc) {r : Option Nat} {off : Int} {tgt : Nat} (hdg : decode cc pc = .ok (.ifnonnull off, 3)) (ht : (pc : Int) + off = (tgt : Int)) (kt : ¬ r = none → W p l e R s m args below meth c H locs cells slots Q (F0 m tgt ls rest)) (kf : r = none → W p l e R s m args below meth c H locs cells slots Q (F0 m (pc + 3) ls rest)) : W p l e R s m args below meth c H locs cells slots Q (F0 m pc ls (va_rf r :: rest)) := by
  cases r with
  | none => exact lv_ifnonnullN hexec hb hdg (kf rfl)
  | some a => exact lv_ifnonnull hexec hb hdg ht (kt (by simp))
end HQ
/-! ===== contracts over the abstract heap ===== -/
def hq_Pc (G : hp_G) (cl : List vw_C) (aT : List FieldType) (B : Nat) (h : hp_H) (As : List Value) : Array Value → State → Prop := va_Pc As (fun U => hp_ok G cl B h U.heap ∧ va_K G.1 cl (hp_tys G aT) U ∧ hq_X U)
def hq_Q (G : hp_G) (cl : List vw_C) (B : Nat) (v : Option Value) (h' : hp_H) : Array Value → State → Outcome → State → Prop := fun _ st oc t => oc = .returned v ∧ hp_ok G cl B h' t.heap ∧ va_F (fun q => B ≤ q) st t
theorem hq_blind {G : hp_G} {cl : List vw_C} {aT : List FieldType} {B : Nat} {h : hp_H} {As : List Value} : FrameBlind (hq_Pc G cl aT B h As) := fun a U g mk q => ⟨q.1, q.2.1, va_K.moved (u := U) (U := U.calling g mk a) (Vm.Alike.refl U.vm) q.2.2.1, hq_X.same rfl q.2.2.2⟩
section HQC
variable {p : Program} {l : Launch} {e : Env} {R : Room} {s : State} {m : MethodId} {args : Array Value} {below : List Frame} {meth : Method} {c : Code} {H : Heap} {locs : List Loc} {cells slots : Nat} {Q : State → Prop}
variable {cc : ByteArray} {pc : Nat} {ls : Array Slot} {rest st0 : List Value} {G : hp_G} {cl : List vw_C} {aT : List FieldType} {gt : List Cond} {own nm : String} {nL : Nat} {ret : Option FieldType} {B : Nat} {H0 : Heap} {h h' : hp_H} {mc ms : Nat} {v : Option Value} {a : Array Value}
theorem hq_after (I : hp_I G cl B H0 h H locs) (hr : va_Run p l e R s m args below meth c H locs cells slots mc ms (F0 m pc ls st0) rest (hq_Q G cl B v h' a) (fun q => B ≤ q))
    (kk : ∀ (H1 : Heap) (locs1 : List Loc), hp_I G cl B H0 h' H1 locs1 → W p l e R s m args below meth c H1 locs1 (cells + mc) (slots + ms) Q (F0 m (pc + 3) ls (v.toList ++ rest))) : W p l e R s m args below meth c H locs cells slots Q (F0 m pc ls st0) := by
  intro T hT X
  obtain ⟨v', st₀, t, T', L, g0, X', hL, e1, e2, ⟨hv, hok, hz, hk⟩, st⟩ := hr T hT X
  cases hv
  rw [g0] at hz hk
  obtain ⟨t2, a1, b1⟩ := kk T'.heap (locs ++ L) ⟨by rw [e1]; exact hok, I.2.1, Nat.le_trans I.2.2.1 (by rw [e1]; exact hz), fun q h1 h2 => by rw [e1, hk q (Nat.lt_of_lt_of_le h1 I.2.2.1) h2]; exact I.2.2.2.1 q h1 h2, fun q hq => by
      rcases List.mem_append.mp hq with h | h
      · exact I.2.2.2.2 q h
      · exact hL q h⟩ T' rfl X'
  exact ⟨t2, st t2 a1, b1⟩
theorem hq_preS (C : hq_C p s m args meth c cc nL ret own nm gt G cl aT) (I : hp_I G cl B H0 h H locs) (As : List Value) : PreS s H (hq_Pc G cl aT B h As) As :=
  ⟨hq_blind, fun U hU hW => ⟨rfl, by rw [hU]; exact I.1, va_K.moved hW.alike C.2.1, C.2.2.2.2.2.warm hW⟩⟩
theorem hq_preV (C : hq_C p s m args meth c cc nL ret own nm gt G cl aT) (I : hp_I G cl B H0 h H locs) {b ci : Nat} {rc : vw_C} {fs : List Value} (hc : cl[ci]? = some rc) (hb : h.1 b = some (.inr (ci, fs))) (As : List Value) : PreV s H rc.1 b (hq_Pc G cl aT B h (.ref b :: As)) As :=
  ⟨hq_blind, va_recv C.2.1 (hp_one I.1 hb) hc (q0 := 0) rfl, fun U hU hW => ⟨rfl, by rw [hU]; exact I.1, va_K.moved hW.alike C.2.1, C.2.2.2.2.2.warm hW⟩⟩
theorem hq_good {x y : Cond} {gt : List Cond} (hg : ∀ w ∈ gt, ((w.onTables && w.keeps) = true ∨ ∃ ty, w = .arrayClass ty)) (hy : y ∈ gt) : GoodIn gt (y :: gt) := fun w hw => by
  rcases List.mem_cons.mp hw with rfl | hw
  · exact ⟨hy, hg _ hy⟩
  · exact ⟨hw, hg _ hw⟩
end HQC
/-! calls, by their place in own's constant pool -/
def hq_dn (y : MethodName) (n : Nat) : Prop := y.cls ≠ "java/lang/invoke/MethodHandle" ∧ y.cls ≠ "java/lang/invoke/VarHandle" ∧ (parseMethodDescriptor y.desc).map (fun d => d.parameters.length) = some n
def hq_MS (gt : List Cond) (own : String) (idx : Nat) (y : MethodName) (b : ByteArray) (ml : Nat) (rt : Option FieldType) (n : Nat) : Prop := Cond.code y b ml rt ∈ gt ∧ Cond.initialized y.cls ∈ gt ∧ Cond.methodLink own idx y ∈ gt ∧ Cond.static y ∈ gt ∧ hq_dn y n
def hq_MSN (gt : List Cond) (own : String) (idx : Nat) (y : MethodName) (b : ByteArray) (ml : Nat) (rt : Option FieldType) (n : Nat) : Prop := Cond.code y b ml rt ∈ gt ∧ Cond.initialized y.cls ∈ gt ∧ (own, idx, y, "LayeredLauncher") ∈ hq_nw ∧ Cond.static y ∈ gt ∧ hq_dn y n
def hq_MI (gt : List Cond) (own : String) (idx : Nat) (y : MethodName) (b : ByteArray) (ml : Nat) (rt : Option FieldType) (n : Nat) : Prop := Cond.code y b ml rt ∈ gt ∧ Cond.initialized y.cls ∈ gt ∧ Cond.methodLink own idx y ∈ gt ∧ Cond.instanceMethod y ∈ gt ∧ y.name = "<init>" ∧ hq_dn y n
def hq_MIN (gt : List Cond) (own : String) (idx : Nat) (y : MethodName) (b : ByteArray) (ml : Nat) (rt : Option FieldType) (n : Nat) : Prop := Cond.code y b ml rt ∈ gt ∧ Cond.initialized y.cls ∈ gt ∧ (own, idx, y, "LayeredLauncher") ∈ hq_nw ∧ Cond.instanceMethod y ∈ gt ∧ y.name = "<init>" ∧ hq_dn y n
def hq_MV (gt : List Cond) (cl : List vw_C) (own : String) (idx ci : Nat) (y : MethodName) (b : ByteArray) (ml : Nat) (rt : Option FieldType) (n : Nat) : Prop := Cond.code y b ml rt ∈ gt ∧ Cond.initialized y.cls ∈ gt ∧ Cond.methodLink own idx y ∈ gt ∧ Cond.instanceMethod y ∈ gt ∧ Cond.selects y.cls y y ∈ gt ∧ (∃ rc : vw_C, cl[ci]? = some rc ∧ rc.1 = y.cls) ∧ hq_dn y n
/-- all words of a list stay true -/
def hq_gd (gt : List Cond) : Prop := ∀ w ∈ gt, ((w.onTables && w.keeps) = true ∨ ∃ ty, w = .arrayClass ty)
section HQD
variable {p : Program} {l : Launch} {e : Env} {R : Room} {s : State} {m : MethodId} {args : Array Value} {below : List Frame} {meth : Method} {c : Code} {H : Heap} {locs : List Loc} {cells slots : Nat} {Q : State → Prop}
variable {cc : ByteArray} {pc : Nat} {ls : Array Slot} {rest st0 : List Value} {G : hp_G} {cl : List vw_C} {aT : List FieldType} {gt : List Cond} {own nm : String} {nL : Nat} {ret : Option FieldType} {B : Nat} {H0 : Heap} {h h' : hp_H} {mc ms : Nat} {v : Option Value}
variable {y : MethodName} {b : ByteArray} {ml idx n : Nat} {rt : Option FieldType} {rm : Room} {As : List Value}
theorem hq_callS (hg : hq_gd gt) (C : hq_C p s m args meth c cc nL ret own nm gt G cl aT) (I : hp_I G cl B H0 h H locs) (hsz : ls.size = nL) (hM : Met l y (.code y b ml rt :: gt) rm (hq_Pc G cl aT B h As) (hq_Q G cl B v h') mc ms (fun q => B ≤ q)) (K : hq_MS gt own idx y b ml rt n) (hrm : rm.cells = mc ∧ rm.slots = ms) (hR : rm.frames + 1 ≤ R.frames ∧ 8 + (ml + 11) + rm.locals ≤ R.locals) (hn : As.length = n) (hW : (rest.map fun v => v.category).sum ≤ 8) (hdg : decode cc pc = .ok (.invokestatic idx, 3)) (hf : cells + mc ≤ R.cells ∧ slots + ms ≤ R.slots)
    (kk : ∀ (H1 : Heap) (locs1 : List Loc), hp_I G cl B H0 h' H1 locs1 → W p l e R s m args below meth c H1 locs1 (cells + mc) (slots + ms) Q (F0 m (pc + 3) ls (v.toList ++ rest))) : W p l e R s m args below meth c H locs cells slots Q (F0 m pc ls (As.reverse ++ rest)) := by
  obtain ⟨k1, k2, k3, k4, k5⟩ := K
  have hts := C.1.2.2.2.2
  exact hq_after I (va_runS C.1 hM ⟨callB_of n hts (hq_good (x := .code y b ml rt) hg k1) rfl hrm.1 hrm.2 (hts _ k2) (hts _ k3) k5 hR, hts _ k4⟩ (hq_preS C I As) rfl hn hsz rfl (lv_room hW) hdg hf) kk
theorem hq_callSN (hg : hq_gd gt) (C : hq_C p s m args meth c cc nL ret own nm gt G cl aT) (I : hp_I G cl B H0 h H locs) (hsz : ls.size = nL) (hM : Met l y (.code y b ml rt :: gt) rm (hq_Pc G cl aT B h As) (hq_Q G cl B v h') mc ms (fun q => B ≤ q)) (K : hq_MSN gt own idx y b ml rt n) (hrm : rm.cells = mc ∧ rm.slots = ms) (hR : rm.frames + 1 ≤ R.frames ∧ 8 + (ml + 11) + rm.locals ≤ R.locals) (hn : As.length = n) (hW : (rest.map fun v => v.category).sum ≤ 8) (hdg : decode cc pc = .ok (.invokestatic idx, 3)) (hf : cells + mc ≤ R.cells ∧ slots + ms ≤ R.slots)
    (kk : ∀ (H1 : Heap) (locs1 : List Loc), hp_I G cl B H0 h' H1 locs1 → W p l e R s m args below meth c H1 locs1 (cells + mc) (slots + ms) Q (F0 m (pc + 3) ls (v.toList ++ rest))) : W p l e R s m args below meth c H locs cells slots Q (F0 m pc ls (As.reverse ++ rest)) := by
  obtain ⟨k1, k2, k3, k4, k5⟩ := K
  have hts := C.1.2.2.2.2
  exact hq_after I (va_runSN C.1 hM ⟨va_cnB n hts (hq_good (x := .code y b ml rt) hg k1) rfl hrm.1 hrm.2 (C.2.2.2.2.2.1 _ k3) (hts _ k2) k5 hR, hts _ k4, trivial⟩ (hq_preS C I As) rfl hn hsz rfl (lv_room hW) hdg hf) kk
theorem hq_callI (hg : hq_gd gt) (C : hq_C p s m args meth c cc nL ret own nm gt G cl aT) (I : hp_I G cl B H0 h H locs) (hsz : ls.size = nL) {o : Nat} (hM : Met l y (.code y b ml none :: gt) rm (hq_Pc G cl aT B h (.ref o :: As)) (hq_Q G cl B v h') mc ms (fun q => B ≤ q)) (K : hq_MI gt own idx y b ml none n) (hrm : rm.cells = mc ∧ rm.slots = ms) (hR : rm.frames + 1 ≤ R.frames ∧ 8 + (ml + 11) + rm.locals ≤ R.locals) (hn : As.length = n) (hW : (rest.map fun v => v.category).sum ≤ 8) (hdg : decode cc pc = .ok (.invokespecial idx, 3)) (hf : cells + mc ≤ R.cells ∧ slots + ms ≤ R.slots)
    (kk : ∀ (H1 : Heap) (locs1 : List Loc), hp_I G cl B H0 h' H1 locs1 → W p l e R s m args below meth c H1 locs1 (cells + mc) (slots + ms) Q (F0 m (pc + 3) ls (v.toList ++ rest))) : W p l e R s m args below meth c H locs cells slots Q (F0 m pc ls (As.reverse ++ va_rf (some o) :: rest)) := by
  obtain ⟨k1, k2, k3, k4, k6, k5⟩ := K
  have hts := C.1.2.2.2.2
  exact hq_after I (va_runI C.1 hM ⟨callB_of n hts (hq_good (x := .code y b ml none) hg k1) rfl hrm.1 hrm.2 (hts _ k2) (hts _ k3) k5 hR, k6, hts _ k4⟩ (hq_preS C I (.ref o :: As)) rfl hn hsz rfl (lv_room hW) hdg hf) kk
theorem hq_callIN (hg : hq_gd gt) (C : hq_C p s m args meth c cc nL ret own nm gt G cl aT) (I : hp_I G cl B H0 h H locs) (hsz : ls.size = nL) {o : Nat} (hM : Met l y (.code y b ml none :: gt) rm (hq_Pc G cl aT B h (.ref o :: As)) (hq_Q G cl B v h') mc ms (fun q => B ≤ q)) (K : hq_MIN gt own idx y b ml none n) (hrm : rm.cells = mc ∧ rm.slots = ms) (hR : rm.frames + 1 ≤ R.frames ∧ 8 + (ml + 11) + rm.locals ≤ R.locals) (hn : As.length = n) (hW : (rest.map fun v => v.category).sum ≤ 8) (hdg : decode cc pc = .ok (.invokespecial idx, 3)) (hf : cells + mc ≤ R.cells ∧ slots + ms ≤ R.slots)
    (kk : ∀ (H1 : Heap) (locs1 : List Loc), hp_I G cl B H0 h' H1 locs1 → W p l e R s m args below meth c H1 locs1 (cells + mc) (slots + ms) Q (F0 m (pc + 3) ls (v.toList ++ rest))) : W p l e R s m args below meth c H locs cells slots Q (F0 m pc ls (As.reverse ++ va_rf (some o) :: rest)) := by
  obtain ⟨k1, k2, k3, k4, k6, k5⟩ := K
  have hts := C.1.2.2.2.2
  exact hq_after I (va_runIN C.1 hM ⟨va_cnB n hts (hq_good (x := .code y b ml none) hg k1) rfl hrm.1 hrm.2 (C.2.2.2.2.2.1 _ k3) (hts _ k2) k5 hR, k6, hts _ k4⟩ (hq_preS C I (.ref o :: As)) rfl hn hsz rfl (lv_room hW) hdg hf) kk
theorem hq_callV (hg : hq_gd gt) (C : hq_C p s m args meth c cc nL ret own nm gt G cl aT) (I : hp_I G cl B H0 h H locs) (hsz : ls.size = nL) {o ci : Nat} (hM : Met l y (.code y b ml rt :: gt) rm (hq_Pc G cl aT B h (.ref o :: As)) (hq_Q G cl B v h') mc ms (fun q => B ≤ q)) (K : hq_MV gt cl own idx ci y b ml rt n) {fs : List Value} (ho : h.1 o = some (.inr (ci, fs))) (hrm : rm.cells = mc ∧ rm.slots = ms) (hR : rm.frames + 1 ≤ R.frames ∧ 8 + (ml + 11) + rm.locals ≤ R.locals) (hn : As.length = n) (hW : (rest.map fun v => v.category).sum ≤ 8) (hdg : decode cc pc = .ok (.invokevirtual idx, 3)) (hf : cells + mc ≤ R.cells ∧ slots + ms ≤ R.slots)
    (kk : ∀ (H1 : Heap) (locs1 : List Loc), hp_I G cl B H0 h' H1 locs1 → W p l e R s m args below meth c H1 locs1 (cells + mc) (slots + ms) Q (F0 m (pc + 3) ls (v.toList ++ rest))) : W p l e R s m args below meth c H locs cells slots Q (F0 m pc ls (As.reverse ++ va_rf (some o) :: rest)) := by
  obtain ⟨k1, k2, k3, k4, k6, ⟨rc, hrc, hce⟩, k5⟩ := K
  have hts := C.1.2.2.2.2
  have hpv := hq_preV C I hrc ho As
  rw [hce] at hpv
  exact hq_after I (va_runV C.1 hM ⟨callB_of n hts (hq_good (x := .code y b ml rt) hg k1) rfl hrm.1 hrm.2 (hts _ k2) (hts _ k3) k5 hR, hts _ k4, hts _ k6⟩ hpv rfl hn hsz rfl (lv_room hW) hdg hf) kk
/-! returns -/
theorem hq_iret (C : hq_C p s m args meth c cc nL (some .int) own nm gt G cl aT) (I : hp_I G cl B s.heap h H locs) {x : Int32} (h1 : cells ≤ mc) (h2 : slots ≤ ms) (hdg : decode cc pc = .ok (.ireturn, 1)) : W p l e R s m args below meth c H locs cells slots (MQ below (hq_Q G cl B (some (.int x)) h) args s mc ms (fun q => B ≤ q)) (F0 m pc ls [.int x]) :=
  W.widen h1 h2 (W.iret C.1.1 C.1.2.1 C.2.2.1 (fun t ht hW => ⟨rfl, by rw [ht]; exact I.1, I.2.2.F ht⟩) I.2.2.2.2 hdg C.2.2.2.1)
theorem hq_zret {ty : FieldType} (C : hq_C p s m args meth c cc nL (some ty) own nm gt G cl aT) (I : hp_I G cl B s.heap h H locs) {x : Int32} (hn : narrow ty (.int x) = .int x) (h1 : cells ≤ mc) (h2 : slots ≤ ms) (hdg : decode cc pc = .ok (.ireturn, 1)) : W p l e R s m args below meth c H locs cells slots (MQ below (hq_Q G cl B (some (.int x)) h) args s mc ms (fun q => B ≤ q)) (F0 m pc ls [.int x]) :=
  W.widen h1 h2 (W.zret C.1.1 C.1.2.1 C.2.2.1 hn (fun t ht hW => ⟨rfl, by rw [ht]; exact I.1, I.2.2.F ht⟩) I.2.2.2.2 hdg C.2.2.2.1)
theorem hq_lret (C : hq_C p s m args meth c cc nL (some .long) own nm gt G cl aT) (I : hp_I G cl B s.heap h H locs) {x : Int64} (h1 : cells ≤ mc) (h2 : slots ≤ ms) (hdg : decode cc pc = .ok (.lreturn, 1)) : W p l e R s m args below meth c H locs cells slots (MQ below (hq_Q G cl B (some (.long x)) h) args s mc ms (fun q => B ≤ q)) (F0 m pc ls [.long x]) :=
  W.widen h1 h2 (W.lret C.1.1 C.1.2.1 C.2.2.1 (fun t ht hW => ⟨rfl, by rw [ht]; exact I.1, I.2.2.F ht⟩) I.2.2.2.2 hdg C.2.2.2.1)
theorem hq_vret (C : hq_C p s m args meth c cc nL none own nm gt G cl aT) (I : hp_I G cl B s.heap h H locs) (h1 : cells ≤ mc) (h2 : slots ≤ ms) (hdg : decode cc pc = .ok (.return_, 1)) : W p l e R s m args below meth c H locs cells slots (MQ below (hq_Q G cl B none h) args s mc ms (fun q => B ≤ q)) (F0 m pc ls []) :=
  W.widen h1 h2 (W.vret C.1.1 C.1.2.1 C.2.2.1 (fun t ht hW => ⟨rfl, by rw [ht]; exact I.1, I.2.2.F ht⟩) I.2.2.2.2 hdg C.2.2.2.1)
theorem hq_aret {ty : FieldType} (C : hq_C p s m args meth c cc nL (some ty) own nm gt G cl aT) (I : hp_I G cl B s.heap h H locs) {r : Option Nat} (hrt : (∃ n, ty = .object n) ∨ ∃ t, ty = .array t) (h1 : cells ≤ mc) (h2 : slots ≤ ms) (hdg : decode cc pc = .ok (.areturn, 1)) : W p l e R s m args below meth c H locs cells slots (MQ below (hq_Q G cl B (some (va_rf r)) h) args s mc ms (fun q => B ≤ q)) (F0 m pc ls [va_rf r]) :=
  W.widen h1 h2 (W.aret C.1.1 C.1.2.1 C.2.2.1 hrt (va_rf_or r) (fun t ht hW => ⟨rfl, by rw [ht]; exact I.1, I.2.2.F ht⟩) I.2.2.2.2 hdg C.2.2.2.1)
/-- a method, from its entry -/
theorem hq_enter (hy : plainName y.cls = true) (hlen : (lg_sl As).length ≤ nL)
    (body : ∀ (p : Program) (e : Env) (s : State) (m : MethodId) (args : Array Value) (below : List Frame) (meth : Method) (c : Code), hq_C p s m args meth c b nL rt y.cls y.name gt G cl aT → hp_I G cl B s.heap h s.heap [] → ∀ ls : Array Slot, lv_has ls nL (lv_args 0 As) → W p l e rm s m args below meth c s.heap [] 0 0 (MQ below (hq_Q G cl B v h') args s mc ms (fun q => B ≤ q)) (F0 m 0 ls [])) :
    Met l y (.code y b nL rt :: gt) rm (hq_Pc G cl aT B h As) (hq_Q G cl B v h') mc ms (fun q => B ≤ q) := by
  refine Met.ofW (cc := b) (maxL := nL) (ret := rt) hy rfl ?_
  intro p e s m args below meth c s₁ Bd hml hv
  obtain ⟨rfl, hok, hK, hX⟩ := hv
  have hts := atoms_spec (ws := (.code y b nL rt :: gt)) Bd.pre
  have hown : s.vm.findClass y.cls = some m.cls := findClass_of_methodNamed Bd.named
  have hl := lv_entry As (n := nL) hlen
  rw [lg_entry_eq]
  exact body p e s m _ below meth c ⟨⟨Bd.exec, Bd.bytes, hml, hown, fun w hw => hts w (List.mem_cons_of_mem _ hw)⟩, hK, Bd.returns, Bd.notSynchronized, (name_of_methodNamed Bd.named Bd.method).1, hX⟩ ⟨hok, by rw [hok.1]; exact hok.2.1, va_S.rf⟩ _ hl
end HQD
