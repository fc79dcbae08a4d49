theorem hq_catR (a : Nat) : (Value.ref a).category = 1 := rfl
theorem hq_catI (x : Int32) : (Value.int x).category = 1 := rfl
theorem hq_catL (x : Int64) : (Value.long x).category = 2 := rfl
section HQE
variable {p : Program} {l : Launch} {e : Env} {R : Room} {s : State} {m : MethodId} {args : Array Value} {below : List Frame} {meth : Method} {c : Code} {H : Heap} {locs : List Loc} {cells slots : Nat} {Q : State → Prop}
variable {cc : ByteArray} {pc : Nat} {ls : Array Slot} {rest st0 : List Value} {G : hp_G} {cl : List vw_C} {aT : List FieldType} {gt : List Cond} {own nm : String} {nL : Nat} {ret : Option FieldType} {B : Nat} {H0 : Heap} {h h' : hp_H} {mc ms : Nat} {v : Option Value}
variable {y : MethodName} {b : ByteArray} {ml idx n : Nat} {rt : Option FieldType} {rm : Room} {As : List Value}
theorem hq_callW (hg : hq_gd gt) (C : hq_C p s m args meth c cc nL ret own nm gt G cl aT) (I : hp_I G cl B H0 h H locs) (hsz : ls.size = nL) {o ci : Nat} (hM : Met l y (.code y b ml rt :: gt) rm (hq_Pc G cl aT B h (.ref o :: As)) (hq_Q G cl B v h') mc ms (fun q => B ≤ q)) (K : hq_MV gt cl own idx ci y b ml rt n) {fs : List Value} (ho : h.1 o = some (.inr (ci, fs))) {r : Option Nat} (hr : r = some o) (hrm : rm.cells = mc ∧ rm.slots = ms) (hR : rm.frames + 1 ≤ R.frames ∧ 8 + (ml + 11) + rm.locals ≤ R.locals) (hn : As.length = n) (hW : (rest.map fun v => v.category).sum ≤ 8) (hdg : decode cc pc = .ok (.invokevirtual idx, 3)) (hf : cells + mc ≤ R.cells ∧ slots + ms ≤ R.slots)
    (kk : ∀ (H1 : Heap) (locs1 : List Loc), hp_I G cl B H0 h' H1 locs1 → W p l e R s m args below meth c H1 locs1 (cells + mc) (slots + ms) Q (F0 m (pc + 3) ls (v.toList ++ rest))) : W p l e R s m args below meth c H locs cells slots Q (F0 m pc ls (As.reverse ++ va_rf r :: rest)) := by
  subst hr
  exact hq_callV hg C I hsz hM K ho hrm hR hn hW hdg hf kk
/-- a method, from its entry -/
theorem hq_enterF (hy : plainFor y = true) (hlen : (lg_sl As).length ≤ nL)
    (body : ∀ (p : Program) (e : Env) (s : State) (m : MethodId) (args : Array Value) (below : List Frame) (meth : Method) (c : Code), hq_C p s m args meth c b nL rt y.cls y.name gt G cl aT → hp_I G cl B s.heap h s.heap [] → ∀ ls : Array Slot, lv_has ls nL (lv_args 0 As) → W p l e rm s m args below meth c s.heap [] 0 0 (MQ below (hq_Q G cl B v h') args s mc ms (fun q => B ≤ q)) (F0 m 0 ls [])) :
    Met l y (.code y b nL rt :: gt) rm (hq_Pc G cl aT B h As) (hq_Q G cl B v h') mc ms (fun q => B ≤ q) := by
  refine va_MetF (cc := b) (maxL := nL) (ret := rt) hy rfl ?_
  intro p e s m args below meth c s₁ Bd hml hv
  obtain ⟨rfl, hok, hK, hX⟩ := hv
  have hts := atoms_spec (ws := (.code y b nL rt :: gt)) Bd.pre
  have hown : s.vm.findClass y.cls = some m.cls := findClass_of_methodNamed Bd.named
  have hl := lv_entry As (n := nL) hlen
  rw [lg_entry_eq]
  exact body p e s m _ below meth c ⟨⟨Bd.exec, Bd.bytes, hml, hown, fun w hw => hts w (List.mem_cons_of_mem _ hw)⟩, hK, Bd.returns, Bd.notSynchronized, (name_of_methodNamed Bd.named Bd.method).1, hX⟩ ⟨hok, by rw [hok.1]; exact hok.2.1, va_S.rf⟩ _ hl
end HQE
