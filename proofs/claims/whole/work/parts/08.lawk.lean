/-! THE CLAIM OUT OF ONE WALK OF THE LAW'S BODY. Your part is whole_start (and what it stands on); all else here is the same for every law, but numbers. -/
def R_law : String := "LayeredLauncherLaw"
def lw_P (b : Addr) (xs : List Int32) (args : Array Value) (s : State) : Prop := args = #[.ref b] ∧ s.IntsAt b xs ∧ xs.length ≤ 2048 ∧ (Jvm.Cond.and given_1 narrow_1).before args s = true
def lw_Q (_ : Array Value) (s : State) (o : Outcome) (t : State) : Prop := o = .returned (some (.int 1)) ∧ Framed s o t [] 600000 7302250
def lw_Z (below : List Frame) (a : Array Value) (s : State) : State → Prop := fun t => ∃ o, t.status = .running ∧ Ended t below o ∧ lw_Q a s o t
/-- the law's own end, with 1 on the stack, nothing written that was there before, its room as the claim has it -/
theorem lw_ret {p : Program} {l : Launch} {e : Env} {s : State} {m : MethodId} {below : List Frame} {meth : Method} {c : Code} {b : Nat} (hx : p.tables.exec = Jvm.exec) (hb : c.code = code) (hr : meth.sig.returnType = ret) (hlocks : meth.locks = false) {pc : Nat} {H : Heap} {ls : Array Slot} (hdg : decode code pc = .ok (.ireturn, 1)) : W p l e room_1 s m #[Value.ref b] below meth c H [] 600000 7302250 (lw_Z below #[Value.ref b] s) (F0 m pc ls [.int 1]) := by
  intro T hT X
  obtain ⟨fs, hret, hrun, hended, hW, hframe⟩ := X.leave (v := some (.int 1)) (hlocks := hlocks) (fun h => by rw [hr] at h; cases h)
  have hmeth' : T.vm.method? m = some meth := X.method'
  refine ⟨T.setFrames fs, ?_, .returned (some (.int 1)), hrun, hended, rfl, ⟨_, rfl⟩, hW, hframe⟩
  jvm_step X.here [X.here.top, hx, hb, hdg, hmeth', hr, ret, narrow_b1]
  (try refine ⟨rfl, ?_⟩); (try refine ⟨rfl, ?_⟩)
  first | (intro acts; rw [hret _ acts rfl rfl rfl]) | rw [hret _ _ rfl rfl rfl]
  exact Steps.refl _
/-- what holds at the law's entry: the machine, the code, the tables' words (any of lw_tbl by 'hts w (by decide +kernel)'), the script of L ints xs at the cell b, what the Statement gives of the start (any of its parts by flat_of_before) -/
def lw_At (p : Program) (s : State) (m : MethodId) (meth : Method) (c : Code) (b L : Nat) (xs : Nat → Int32) : Prop :=
  p.tables.exec = Jvm.exec ∧ c.code = code ∧ meth.sig.returnType = ret ∧ c.maxLocals = 4 ∧ s.vm.findClass R_law = some m.cls ∧ (∀ w ∈ lw_tbl, w.before #[Value.ref b] s = true) ∧ va_X b L xs s s.heap ∧ b < s.heap.size ∧ meth.locks = false ∧ (Jvm.Cond.and given_1 narrow_1).before #[Value.ref b] s = true
theorem g47 : (Jvm.Cond.classLink "LayeredLauncherLaw" (7 : Nat) "LayeredLauncher") ∈ gt := List.mem_filter.mpr ⟨List.mem_of_getElem? (i := 47) (by decide +kernel), by decide +kernel⟩
theorem g48 : (Jvm.Cond.instantiable "LayeredLauncher" (6 : Nat)) ∈ gt := List.mem_filter.mpr ⟨List.mem_of_getElem? (i := 48) (by decide +kernel), by decide +kernel⟩
theorem g49 : (Jvm.Cond.methodLink "LayeredLauncherLaw" (9 : Nat) ({ cls := "LayeredLauncher", name := "<init>", desc := "()V" } : Jvm.MethodName)) ∈ gt := List.mem_filter.mpr ⟨List.mem_of_getElem? (i := 49) (by decide +kernel), by decide +kernel⟩
theorem g50 : (Jvm.Cond.instanceMethod ({ cls := "LayeredLauncher", name := "<init>", desc := "()V" } : Jvm.MethodName)) ∈ gt := List.mem_filter.mpr ⟨List.mem_of_getElem? (i := 50) (by decide +kernel), by decide +kernel⟩
theorem g51 : (Jvm.Cond.code ({ cls := "LayeredLauncher", name := "<init>", desc := "()V" } : Jvm.MethodName) prog_1_method_1_code (1 : Nat) (Option.none : Option Jvm.ClassFile.FieldType)) ∈ gt := List.mem_filter.mpr ⟨List.mem_of_getElem? (i := 51) (by decide +kernel), by decide +kernel⟩
theorem g124 : (Jvm.Cond.methodLink "LayeredLauncherLaw" (13 : Nat) ({ cls := "LayeredLauncher", name := "type", desc := "(I)I" } : Jvm.MethodName)) ∈ gt := List.mem_filter.mpr ⟨List.mem_of_getElem? (i := 124) (by decide +kernel), by decide +kernel⟩
theorem g125 : (Jvm.Cond.instanceMethod ({ cls := "LayeredLauncher", name := "type", desc := "(I)I" } : Jvm.MethodName)) ∈ gt := List.mem_filter.mpr ⟨List.mem_of_getElem? (i := 125) (by decide +kernel), by decide +kernel⟩
theorem g126 : (Jvm.Cond.selects "LayeredLauncher" ({ cls := "LayeredLauncher", name := "type", desc := "(I)I" } : Jvm.MethodName) ({ cls := "LayeredLauncher", name := "type", desc := "(I)I" } : Jvm.MethodName)) ∈ gt := List.mem_filter.mpr ⟨List.mem_of_getElem? (i := 126) (by decide +kernel), by decide +kernel⟩
theorem g127 : (Jvm.Cond.code ({ cls := "LayeredLauncher", name := "type", desc := "(I)I" } : Jvm.MethodName) prog_1_method_2_code (2 : Nat) (Option.some Jvm.ClassFile.FieldType.int)) ∈ gt := List.mem_filter.mpr ⟨List.mem_of_getElem? (i := 127) (by decide +kernel), by decide +kernel⟩
theorem g132 : (Jvm.Cond.methodLink "LayeredLauncherLaw" (18 : Nat) ({ cls := "LayeredLauncher", name := "wipe", desc := "()I" } : Jvm.MethodName)) ∈ gt := List.mem_filter.mpr ⟨List.mem_of_getElem? (i := 132) (by decide +kernel), by decide +kernel⟩
theorem g133 : (Jvm.Cond.instanceMethod ({ cls := "LayeredLauncher", name := "wipe", desc := "()I" } : Jvm.MethodName)) ∈ gt := List.mem_filter.mpr ⟨List.mem_of_getElem? (i := 133) (by decide +kernel), by decide +kernel⟩
theorem g134 : (Jvm.Cond.selects "LayeredLauncher" ({ cls := "LayeredLauncher", name := "wipe", desc := "()I" } : Jvm.MethodName) ({ cls := "LayeredLauncher", name := "wipe", desc := "()I" } : Jvm.MethodName)) ∈ gt := List.mem_filter.mpr ⟨List.mem_of_getElem? (i := 134) (by decide +kernel), by decide +kernel⟩
theorem g135 : (Jvm.Cond.code ({ cls := "LayeredLauncher", name := "wipe", desc := "()I" } : Jvm.MethodName) prog_1_method_3_code (2 : Nat) (Option.some Jvm.ClassFile.FieldType.int)) ∈ gt := List.mem_filter.mpr ⟨List.mem_of_getElem? (i := 135) (by decide +kernel), by decide +kernel⟩
theorem g140 : (Jvm.Cond.methodLink "LayeredLauncherLaw" (23 : Nat) ({ cls := "LayeredLauncher", name := "publish", desc := "()I" } : Jvm.MethodName)) ∈ gt := List.mem_filter.mpr ⟨List.mem_of_getElem? (i := 140) (by decide +kernel), by decide +kernel⟩
theorem g141 : (Jvm.Cond.instanceMethod ({ cls := "LayeredLauncher", name := "publish", desc := "()I" } : Jvm.MethodName)) ∈ gt := List.mem_filter.mpr ⟨List.mem_of_getElem? (i := 141) (by decide +kernel), by decide +kernel⟩
theorem g142 : (Jvm.Cond.selects "LayeredLauncher" ({ cls := "LayeredLauncher", name := "publish", desc := "()I" } : Jvm.MethodName) ({ cls := "LayeredLauncher", name := "publish", desc := "()I" } : Jvm.MethodName)) ∈ gt := List.mem_filter.mpr ⟨List.mem_of_getElem? (i := 142) (by decide +kernel), by decide +kernel⟩
theorem g143 : (Jvm.Cond.code ({ cls := "LayeredLauncher", name := "publish", desc := "()I" } : Jvm.MethodName) prog_1_method_4_code (7 : Nat) (Option.some Jvm.ClassFile.FieldType.int)) ∈ gt := List.mem_filter.mpr ⟨List.mem_of_getElem? (i := 143) (by decide +kernel), by decide +kernel⟩
theorem g304 : (Jvm.Cond.methodLink "LayeredLauncherLaw" (27 : Nat) ({ cls := "LayeredLauncher", name := "depend", desc := "(IZ)I" } : Jvm.MethodName)) ∈ gt := List.mem_filter.mpr ⟨List.mem_of_getElem? (i := 304) (by decide +kernel), by decide +kernel⟩
theorem g305 : (Jvm.Cond.instanceMethod ({ cls := "LayeredLauncher", name := "depend", desc := "(IZ)I" } : Jvm.MethodName)) ∈ gt := List.mem_filter.mpr ⟨List.mem_of_getElem? (i := 305) (by decide +kernel), by decide +kernel⟩
theorem g306 : (Jvm.Cond.selects "LayeredLauncher" ({ cls := "LayeredLauncher", name := "depend", desc := "(IZ)I" } : Jvm.MethodName) ({ cls := "LayeredLauncher", name := "depend", desc := "(IZ)I" } : Jvm.MethodName)) ∈ gt := List.mem_filter.mpr ⟨List.mem_of_getElem? (i := 306) (by decide +kernel), by decide +kernel⟩
theorem g307 : (Jvm.Cond.code ({ cls := "LayeredLauncher", name := "depend", desc := "(IZ)I" } : Jvm.MethodName) prog_1_method_5_code (8 : Nat) (Option.some Jvm.ClassFile.FieldType.int)) ∈ gt := List.mem_filter.mpr ⟨List.mem_of_getElem? (i := 307) (by decide +kernel), by decide +kernel⟩
theorem g354 : (Jvm.Cond.methodLink "LayeredLauncherLaw" (32 : Nat) ({ cls := "LayeredLauncher", name := "exclude", desc := "(I)I" } : Jvm.MethodName)) ∈ gt := List.mem_filter.mpr ⟨List.mem_of_getElem? (i := 354) (by decide +kernel), by decide +kernel⟩
theorem g355 : (Jvm.Cond.instanceMethod ({ cls := "LayeredLauncher", name := "exclude", desc := "(I)I" } : Jvm.MethodName)) ∈ gt := List.mem_filter.mpr ⟨List.mem_of_getElem? (i := 355) (by decide +kernel), by decide +kernel⟩
theorem g356 : (Jvm.Cond.selects "LayeredLauncher" ({ cls := "LayeredLauncher", name := "exclude", desc := "(I)I" } : Jvm.MethodName) ({ cls := "LayeredLauncher", name := "exclude", desc := "(I)I" } : Jvm.MethodName)) ∈ gt := List.mem_filter.mpr ⟨List.mem_of_getElem? (i := 356) (by decide +kernel), by decide +kernel⟩
theorem g357 : (Jvm.Cond.code ({ cls := "LayeredLauncher", name := "exclude", desc := "(I)I" } : Jvm.MethodName) prog_1_method_6_code (7 : Nat) (Option.some Jvm.ClassFile.FieldType.int)) ∈ gt := List.mem_filter.mpr ⟨List.mem_of_getElem? (i := 357) (by decide +kernel), by decide +kernel⟩
theorem g367 : (Jvm.Cond.methodLink "LayeredLauncherLaw" (36 : Nat) ({ cls := "LayeredLauncher", name := "pack", desc := "(IIZ)I" } : Jvm.MethodName)) ∈ gt := List.mem_filter.mpr ⟨List.mem_of_getElem? (i := 367) (by decide +kernel), by decide +kernel⟩
theorem g368 : (Jvm.Cond.instanceMethod ({ cls := "LayeredLauncher", name := "pack", desc := "(IIZ)I" } : Jvm.MethodName)) ∈ gt := List.mem_filter.mpr ⟨List.mem_of_getElem? (i := 368) (by decide +kernel), by decide +kernel⟩
theorem g369 : (Jvm.Cond.selects "LayeredLauncher" ({ cls := "LayeredLauncher", name := "pack", desc := "(IIZ)I" } : Jvm.MethodName) ({ cls := "LayeredLauncher", name := "pack", desc := "(IIZ)I" } : Jvm.MethodName)) ∈ gt := List.mem_filter.mpr ⟨List.mem_of_getElem? (i := 369) (by decide +kernel), by decide +kernel⟩
theorem g370 : (Jvm.Cond.code ({ cls := "LayeredLauncher", name := "pack", desc := "(IIZ)I" } : Jvm.MethodName) prog_1_method_7_code (5 : Nat) (Option.some Jvm.ClassFile.FieldType.int)) ∈ gt := List.mem_filter.mpr ⟨List.mem_of_getElem? (i := 370) (by decide +kernel), by decide +kernel⟩
theorem g378 : (Jvm.Cond.methodLink "LayeredLauncherLaw" (41 : Nat) ({ cls := "LayeredLauncher", name := "retire", desc := "(I)I" } : Jvm.MethodName)) ∈ gt := List.mem_filter.mpr ⟨List.mem_of_getElem? (i := 378) (by decide +kernel), by decide +kernel⟩
theorem g379 : (Jvm.Cond.instanceMethod ({ cls := "LayeredLauncher", name := "retire", desc := "(I)I" } : Jvm.MethodName)) ∈ gt := List.mem_filter.mpr ⟨List.mem_of_getElem? (i := 379) (by decide +kernel), by decide +kernel⟩
theorem g380 : (Jvm.Cond.selects "LayeredLauncher" ({ cls := "LayeredLauncher", name := "retire", desc := "(I)I" } : Jvm.MethodName) ({ cls := "LayeredLauncher", name := "retire", desc := "(I)I" } : Jvm.MethodName)) ∈ gt := List.mem_filter.mpr ⟨List.mem_of_getElem? (i := 380) (by decide +kernel), by decide +kernel⟩
theorem g381 : (Jvm.Cond.code ({ cls := "LayeredLauncher", name := "retire", desc := "(I)I" } : Jvm.MethodName) prog_1_method_8_code (3 : Nat) (Option.some Jvm.ClassFile.FieldType.int)) ∈ gt := List.mem_filter.mpr ⟨List.mem_of_getElem? (i := 381) (by decide +kernel), by decide +kernel⟩
theorem g382 : (Jvm.Cond.methodLink "LayeredLauncherLaw" (45 : Nat) ({ cls := "LayeredLauncher", name := "compare", desc := "()I" } : Jvm.MethodName)) ∈ gt := List.mem_filter.mpr ⟨List.mem_of_getElem? (i := 382) (by decide +kernel), by decide +kernel⟩
theorem g383 : (Jvm.Cond.instanceMethod ({ cls := "LayeredLauncher", name := "compare", desc := "()I" } : Jvm.MethodName)) ∈ gt := List.mem_filter.mpr ⟨List.mem_of_getElem? (i := 383) (by decide +kernel), by decide +kernel⟩
theorem g384 : (Jvm.Cond.selects "LayeredLauncher" ({ cls := "LayeredLauncher", name := "compare", desc := "()I" } : Jvm.MethodName) ({ cls := "LayeredLauncher", name := "compare", desc := "()I" } : Jvm.MethodName)) ∈ gt := List.mem_filter.mpr ⟨List.mem_of_getElem? (i := 384) (by decide +kernel), by decide +kernel⟩
theorem g385 : (Jvm.Cond.code ({ cls := "LayeredLauncher", name := "compare", desc := "()I" } : Jvm.MethodName) prog_1_method_9_code (5 : Nat) (Option.some Jvm.ClassFile.FieldType.int)) ∈ gt := List.mem_filter.mpr ⟨List.mem_of_getElem? (i := 385) (by decide +kernel), by decide +kernel⟩
theorem g387 : (Jvm.Cond.methodLink "LayeredLauncherLaw" (49 : Nat) ({ cls := "LayeredLauncher", name := "resolve", desc := "()I" } : Jvm.MethodName)) ∈ gt := List.mem_filter.mpr ⟨List.mem_of_getElem? (i := 387) (by decide +kernel), by decide +kernel⟩
theorem g388 : (Jvm.Cond.instanceMethod ({ cls := "LayeredLauncher", name := "resolve", desc := "()I" } : Jvm.MethodName)) ∈ gt := List.mem_filter.mpr ⟨List.mem_of_getElem? (i := 388) (by decide +kernel), by decide +kernel⟩
theorem g389 : (Jvm.Cond.selects "LayeredLauncher" ({ cls := "LayeredLauncher", name := "resolve", desc := "()I" } : Jvm.MethodName) ({ cls := "LayeredLauncher", name := "resolve", desc := "()I" } : Jvm.MethodName)) ∈ gt := List.mem_filter.mpr ⟨List.mem_of_getElem? (i := 389) (by decide +kernel), by decide +kernel⟩
theorem g390 : (Jvm.Cond.code ({ cls := "LayeredLauncher", name := "resolve", desc := "()I" } : Jvm.MethodName) prog_1_method_10_code (8 : Nat) (Option.some Jvm.ClassFile.FieldType.int)) ∈ gt := List.mem_filter.mpr ⟨List.mem_of_getElem? (i := 390) (by decide +kernel), by decide +kernel⟩
theorem g419 : (Jvm.Cond.methodLink "LayeredLauncherLaw" (53 : Nat) ({ cls := "LayeredLauncher", name := "culprit", desc := "()I" } : Jvm.MethodName)) ∈ gt := List.mem_filter.mpr ⟨List.mem_of_getElem? (i := 419) (by decide +kernel), by decide +kernel⟩
theorem g420 : (Jvm.Cond.instanceMethod ({ cls := "LayeredLauncher", name := "culprit", desc := "()I" } : Jvm.MethodName)) ∈ gt := List.mem_filter.mpr ⟨List.mem_of_getElem? (i := 420) (by decide +kernel), by decide +kernel⟩
theorem g421 : (Jvm.Cond.selects "LayeredLauncher" ({ cls := "LayeredLauncher", name := "culprit", desc := "()I" } : Jvm.MethodName) ({ cls := "LayeredLauncher", name := "culprit", desc := "()I" } : Jvm.MethodName)) ∈ gt := List.mem_filter.mpr ⟨List.mem_of_getElem? (i := 421) (by decide +kernel), by decide +kernel⟩
theorem g422 : (Jvm.Cond.code ({ cls := "LayeredLauncher", name := "culprit", desc := "()I" } : Jvm.MethodName) prog_1_method_11_code (1 : Nat) (Option.some Jvm.ClassFile.FieldType.int)) ∈ gt := List.mem_filter.mpr ⟨List.mem_of_getElem? (i := 422) (by decide +kernel), by decide +kernel⟩
theorem g423 : (Jvm.Cond.methodLink "LayeredLauncherLaw" (57 : Nat) ({ cls := "LayeredLauncher", name := "entry", desc := "(I)I" } : Jvm.MethodName)) ∈ gt := List.mem_filter.mpr ⟨List.mem_of_getElem? (i := 423) (by decide +kernel), by decide +kernel⟩
theorem g424 : (Jvm.Cond.instanceMethod ({ cls := "LayeredLauncher", name := "entry", desc := "(I)I" } : Jvm.MethodName)) ∈ gt := List.mem_filter.mpr ⟨List.mem_of_getElem? (i := 424) (by decide +kernel), by decide +kernel⟩
theorem g425 : (Jvm.Cond.selects "LayeredLauncher" ({ cls := "LayeredLauncher", name := "entry", desc := "(I)I" } : Jvm.MethodName) ({ cls := "LayeredLauncher", name := "entry", desc := "(I)I" } : Jvm.MethodName)) ∈ gt := List.mem_filter.mpr ⟨List.mem_of_getElem? (i := 425) (by decide +kernel), by decide +kernel⟩
theorem g426 : (Jvm.Cond.code ({ cls := "LayeredLauncher", name := "entry", desc := "(I)I" } : Jvm.MethodName) prog_1_method_12_code (2 : Nat) (Option.some Jvm.ClassFile.FieldType.int)) ∈ gt := List.mem_filter.mpr ⟨List.mem_of_getElem? (i := 426) (by decide +kernel), by decide +kernel⟩
theorem g431 : (Jvm.Cond.methodLink "LayeredLauncherLaw" (61 : Nat) ({ cls := "LayeredLauncher", name := "depth", desc := "(I)I" } : Jvm.MethodName)) ∈ gt := List.mem_filter.mpr ⟨List.mem_of_getElem? (i := 431) (by decide +kernel), by decide +kernel⟩
theorem g432 : (Jvm.Cond.instanceMethod ({ cls := "LayeredLauncher", name := "depth", desc := "(I)I" } : Jvm.MethodName)) ∈ gt := List.mem_filter.mpr ⟨List.mem_of_getElem? (i := 432) (by decide +kernel), by decide +kernel⟩
theorem g433 : (Jvm.Cond.selects "LayeredLauncher" ({ cls := "LayeredLauncher", name := "depth", desc := "(I)I" } : Jvm.MethodName) ({ cls := "LayeredLauncher", name := "depth", desc := "(I)I" } : Jvm.MethodName)) ∈ gt := List.mem_filter.mpr ⟨List.mem_of_getElem? (i := 433) (by decide +kernel), by decide +kernel⟩
theorem g434 : (Jvm.Cond.code ({ cls := "LayeredLauncher", name := "depth", desc := "(I)I" } : Jvm.MethodName) prog_1_method_13_code (2 : Nat) (Option.some Jvm.ClassFile.FieldType.int)) ∈ gt := List.mem_filter.mpr ⟨List.mem_of_getElem? (i := 434) (by decide +kernel), by decide +kernel⟩
theorem g435 : (Jvm.Cond.methodLink "LayeredLauncherLaw" (65 : Nat) ({ cls := "LayeredLauncher", name := "parent", desc := "(I)I" } : Jvm.MethodName)) ∈ gt := List.mem_filter.mpr ⟨List.mem_of_getElem? (i := 435) (by decide +kernel), by decide +kernel⟩
theorem g436 : (Jvm.Cond.instanceMethod ({ cls := "LayeredLauncher", name := "parent", desc := "(I)I" } : Jvm.MethodName)) ∈ gt := List.mem_filter.mpr ⟨List.mem_of_getElem? (i := 436) (by decide +kernel), by decide +kernel⟩
theorem g437 : (Jvm.Cond.selects "LayeredLauncher" ({ cls := "LayeredLauncher", name := "parent", desc := "(I)I" } : Jvm.MethodName) ({ cls := "LayeredLauncher", name := "parent", desc := "(I)I" } : Jvm.MethodName)) ∈ gt := List.mem_filter.mpr ⟨List.mem_of_getElem? (i := 437) (by decide +kernel), by decide +kernel⟩
theorem g438 : (Jvm.Cond.code ({ cls := "LayeredLauncher", name := "parent", desc := "(I)I" } : Jvm.MethodName) prog_1_method_14_code (2 : Nat) (Option.some Jvm.ClassFile.FieldType.int)) ∈ gt := List.mem_filter.mpr ⟨List.mem_of_getElem? (i := 438) (by decide +kernel), by decide +kernel⟩
theorem g439 : (Jvm.Cond.methodLink "LayeredLauncherLaw" (69 : Nat) ({ cls := "LayeredLauncher", name := "find", desc := "(II)I" } : Jvm.MethodName)) ∈ gt := List.mem_filter.mpr ⟨List.mem_of_getElem? (i := 439) (by decide +kernel), by decide +kernel⟩
theorem g440 : (Jvm.Cond.instanceMethod ({ cls := "LayeredLauncher", name := "find", desc := "(II)I" } : Jvm.MethodName)) ∈ gt := List.mem_filter.mpr ⟨List.mem_of_getElem? (i := 440) (by decide +kernel), by decide +kernel⟩
theorem g441 : (Jvm.Cond.selects "LayeredLauncher" ({ cls := "LayeredLauncher", name := "find", desc := "(II)I" } : Jvm.MethodName) ({ cls := "LayeredLauncher", name := "find", desc := "(II)I" } : Jvm.MethodName)) ∈ gt := List.mem_filter.mpr ⟨List.mem_of_getElem? (i := 441) (by decide +kernel), by decide +kernel⟩
theorem g442 : (Jvm.Cond.code ({ cls := "LayeredLauncher", name := "find", desc := "(II)I" } : Jvm.MethodName) prog_1_method_15_code (4 : Nat) (Option.some Jvm.ClassFile.FieldType.int)) ∈ gt := List.mem_filter.mpr ⟨List.mem_of_getElem? (i := 442) (by decide +kernel), by decide +kernel⟩
theorem g451 : (Jvm.Cond.methodLink "LayeredLauncherLaw" (74 : Nat) ({ cls := "LayeredLauncher", name := "text", desc := "(II)I" } : Jvm.MethodName)) ∈ gt := List.mem_filter.mpr ⟨List.mem_of_getElem? (i := 451) (by decide +kernel), by decide +kernel⟩
theorem g452 : (Jvm.Cond.instanceMethod ({ cls := "LayeredLauncher", name := "text", desc := "(II)I" } : Jvm.MethodName)) ∈ gt := List.mem_filter.mpr ⟨List.mem_of_getElem? (i := 452) (by decide +kernel), by decide +kernel⟩
theorem g453 : (Jvm.Cond.selects "LayeredLauncher" ({ cls := "LayeredLauncher", name := "text", desc := "(II)I" } : Jvm.MethodName) ({ cls := "LayeredLauncher", name := "text", desc := "(II)I" } : Jvm.MethodName)) ∈ gt := List.mem_filter.mpr ⟨List.mem_of_getElem? (i := 453) (by decide +kernel), by decide +kernel⟩
theorem g454 : (Jvm.Cond.code ({ cls := "LayeredLauncher", name := "text", desc := "(II)I" } : Jvm.MethodName) prog_1_method_16_code (4 : Nat) (Option.some Jvm.ClassFile.FieldType.int)) ∈ gt := List.mem_filter.mpr ⟨List.mem_of_getElem? (i := 454) (by decide +kernel), by decide +kernel⟩
theorem g455 : (Jvm.Cond.methodLink "LayeredLauncherLaw" (78 : Nat) ({ cls := "LayeredLauncher", name := "count", desc := "(I)I" } : Jvm.MethodName)) ∈ gt := List.mem_filter.mpr ⟨List.mem_of_getElem? (i := 455) (by decide +kernel), by decide +kernel⟩
theorem g456 : (Jvm.Cond.instanceMethod ({ cls := "LayeredLauncher", name := "count", desc := "(I)I" } : Jvm.MethodName)) ∈ gt := List.mem_filter.mpr ⟨List.mem_of_getElem? (i := 456) (by decide +kernel), by decide +kernel⟩
theorem g457 : (Jvm.Cond.selects "LayeredLauncher" ({ cls := "LayeredLauncher", name := "count", desc := "(I)I" } : Jvm.MethodName) ({ cls := "LayeredLauncher", name := "count", desc := "(I)I" } : Jvm.MethodName)) ∈ gt := List.mem_filter.mpr ⟨List.mem_of_getElem? (i := 457) (by decide +kernel), by decide +kernel⟩
theorem g458 : (Jvm.Cond.code ({ cls := "LayeredLauncher", name := "count", desc := "(I)I" } : Jvm.MethodName) prog_1_method_17_code (2 : Nat) (Option.some Jvm.ClassFile.FieldType.int)) ∈ gt := List.mem_filter.mpr ⟨List.mem_of_getElem? (i := 458) (by decide +kernel), by decide +kernel⟩
theorem g480 : (Jvm.Cond.classLink "LayeredLauncherLaw" (10 : Nat) "LayeredLauncherModel") ∈ gt := List.mem_filter.mpr ⟨List.mem_of_getElem? (i := 480) (by decide +kernel), by decide +kernel⟩
theorem g481 : (Jvm.Cond.instantiable "LayeredLauncherModel" (29 : Nat)) ∈ gt := List.mem_filter.mpr ⟨List.mem_of_getElem? (i := 481) (by decide +kernel), by decide +kernel⟩
theorem g482 : (Jvm.Cond.methodLink "LayeredLauncherLaw" (12 : Nat) ({ cls := "LayeredLauncherModel", name := "<init>", desc := "()V" } : Jvm.MethodName)) ∈ gt := List.mem_filter.mpr ⟨List.mem_of_getElem? (i := 482) (by decide +kernel), by decide +kernel⟩
theorem g483 : (Jvm.Cond.instanceMethod ({ cls := "LayeredLauncherModel", name := "<init>", desc := "()V" } : Jvm.MethodName)) ∈ gt := List.mem_filter.mpr ⟨List.mem_of_getElem? (i := 483) (by decide +kernel), by decide +kernel⟩
theorem g484 : (Jvm.Cond.code ({ cls := "LayeredLauncherModel", name := "<init>", desc := "()V" } : Jvm.MethodName) prog_9_method_1_code (1 : Nat) (Option.none : Option Jvm.ClassFile.FieldType)) ∈ gt := List.mem_filter.mpr ⟨List.mem_of_getElem? (i := 484) (by decide +kernel), by decide +kernel⟩
theorem g575 : (Jvm.Cond.methodLink "LayeredLauncherLaw" (17 : Nat) ({ cls := "LayeredLauncherModel", name := "type", desc := "(I)I" } : Jvm.MethodName)) ∈ gt := List.mem_filter.mpr ⟨List.mem_of_getElem? (i := 575) (by decide +kernel), by decide +kernel⟩
theorem g576 : (Jvm.Cond.instanceMethod ({ cls := "LayeredLauncherModel", name := "type", desc := "(I)I" } : Jvm.MethodName)) ∈ gt := List.mem_filter.mpr ⟨List.mem_of_getElem? (i := 576) (by decide +kernel), by decide +kernel⟩
theorem g577 : (Jvm.Cond.selects "LayeredLauncherModel" ({ cls := "LayeredLauncherModel", name := "type", desc := "(I)I" } : Jvm.MethodName) ({ cls := "LayeredLauncherModel", name := "type", desc := "(I)I" } : Jvm.MethodName)) ∈ gt := List.mem_filter.mpr ⟨List.mem_of_getElem? (i := 577) (by decide +kernel), by decide +kernel⟩
theorem g578 : (Jvm.Cond.code ({ cls := "LayeredLauncherModel", name := "type", desc := "(I)I" } : Jvm.MethodName) prog_9_method_2_code (2 : Nat) (Option.some Jvm.ClassFile.FieldType.int)) ∈ gt := List.mem_filter.mpr ⟨List.mem_of_getElem? (i := 578) (by decide +kernel), by decide +kernel⟩
theorem g579 : (Jvm.Cond.methodLink "LayeredLauncherLaw" (22 : Nat) ({ cls := "LayeredLauncherModel", name := "wipe", desc := "()I" } : Jvm.MethodName)) ∈ gt := List.mem_filter.mpr ⟨List.mem_of_getElem? (i := 579) (by decide +kernel), by decide +kernel⟩
theorem g580 : (Jvm.Cond.instanceMethod ({ cls := "LayeredLauncherModel", name := "wipe", desc := "()I" } : Jvm.MethodName)) ∈ gt := List.mem_filter.mpr ⟨List.mem_of_getElem? (i := 580) (by decide +kernel), by decide +kernel⟩
theorem g581 : (Jvm.Cond.selects "LayeredLauncherModel" ({ cls := "LayeredLauncherModel", name := "wipe", desc := "()I" } : Jvm.MethodName) ({ cls := "LayeredLauncherModel", name := "wipe", desc := "()I" } : Jvm.MethodName)) ∈ gt := List.mem_filter.mpr ⟨List.mem_of_getElem? (i := 581) (by decide +kernel), by decide +kernel⟩
theorem g582 : (Jvm.Cond.code ({ cls := "LayeredLauncherModel", name := "wipe", desc := "()I" } : Jvm.MethodName) prog_9_method_3_code (2 : Nat) (Option.some Jvm.ClassFile.FieldType.int)) ∈ gt := List.mem_filter.mpr ⟨List.mem_of_getElem? (i := 582) (by decide +kernel), by decide +kernel⟩
theorem g583 : (Jvm.Cond.methodLink "LayeredLauncherLaw" (26 : Nat) ({ cls := "LayeredLauncherModel", name := "publish", desc := "()I" } : Jvm.MethodName)) ∈ gt := List.mem_filter.mpr ⟨List.mem_of_getElem? (i := 583) (by decide +kernel), by decide +kernel⟩
theorem g584 : (Jvm.Cond.instanceMethod ({ cls := "LayeredLauncherModel", name := "publish", desc := "()I" } : Jvm.MethodName)) ∈ gt := List.mem_filter.mpr ⟨List.mem_of_getElem? (i := 584) (by decide +kernel), by decide +kernel⟩
theorem g585 : (Jvm.Cond.selects "LayeredLauncherModel" ({ cls := "LayeredLauncherModel", name := "publish", desc := "()I" } : Jvm.MethodName) ({ cls := "LayeredLauncherModel", name := "publish", desc := "()I" } : Jvm.MethodName)) ∈ gt := List.mem_filter.mpr ⟨List.mem_of_getElem? (i := 585) (by decide +kernel), by decide +kernel⟩
theorem g586 : (Jvm.Cond.code ({ cls := "LayeredLauncherModel", name := "publish", desc := "()I" } : Jvm.MethodName) prog_9_method_24_code (3 : Nat) (Option.some Jvm.ClassFile.FieldType.int)) ∈ gt := List.mem_filter.mpr ⟨List.mem_of_getElem? (i := 586) (by decide +kernel), by decide +kernel⟩
theorem g645 : (Jvm.Cond.methodLink "LayeredLauncherLaw" (31 : Nat) ({ cls := "LayeredLauncherModel", name := "depend", desc := "(IZ)I" } : Jvm.MethodName)) ∈ gt := List.mem_filter.mpr ⟨List.mem_of_getElem? (i := 645) (by decide +kernel), by decide +kernel⟩
theorem g646 : (Jvm.Cond.instanceMethod ({ cls := "LayeredLauncherModel", name := "depend", desc := "(IZ)I" } : Jvm.MethodName)) ∈ gt := List.mem_filter.mpr ⟨List.mem_of_getElem? (i := 646) (by decide +kernel), by decide +kernel⟩
theorem g647 : (Jvm.Cond.selects "LayeredLauncherModel" ({ cls := "LayeredLauncherModel", name := "depend", desc := "(IZ)I" } : Jvm.MethodName) ({ cls := "LayeredLauncherModel", name := "depend", desc := "(IZ)I" } : Jvm.MethodName)) ∈ gt := List.mem_filter.mpr ⟨List.mem_of_getElem? (i := 647) (by decide +kernel), by decide +kernel⟩
theorem g648 : (Jvm.Cond.code ({ cls := "LayeredLauncherModel", name := "depend", desc := "(IZ)I" } : Jvm.MethodName) prog_9_method_26_code (6 : Nat) (Option.some Jvm.ClassFile.FieldType.int)) ∈ gt := List.mem_filter.mpr ⟨List.mem_of_getElem? (i := 648) (by decide +kernel), by decide +kernel⟩
theorem g661 : (Jvm.Cond.methodLink "LayeredLauncherLaw" (35 : Nat) ({ cls := "LayeredLauncherModel", name := "exclude", desc := "(I)I" } : Jvm.MethodName)) ∈ gt := List.mem_filter.mpr ⟨List.mem_of_getElem? (i := 661) (by decide +kernel), by decide +kernel⟩
theorem g662 : (Jvm.Cond.instanceMethod ({ cls := "LayeredLauncherModel", name := "exclude", desc := "(I)I" } : Jvm.MethodName)) ∈ gt := List.mem_filter.mpr ⟨List.mem_of_getElem? (i := 662) (by decide +kernel), by decide +kernel⟩
theorem g663 : (Jvm.Cond.selects "LayeredLauncherModel" ({ cls := "LayeredLauncherModel", name := "exclude", desc := "(I)I" } : Jvm.MethodName) ({ cls := "LayeredLauncherModel", name := "exclude", desc := "(I)I" } : Jvm.MethodName)) ∈ gt := List.mem_filter.mpr ⟨List.mem_of_getElem? (i := 663) (by decide +kernel), by decide +kernel⟩
theorem g664 : (Jvm.Cond.code ({ cls := "LayeredLauncherModel", name := "exclude", desc := "(I)I" } : Jvm.MethodName) prog_9_method_27_code (5 : Nat) (Option.some Jvm.ClassFile.FieldType.int)) ∈ gt := List.mem_filter.mpr ⟨List.mem_of_getElem? (i := 664) (by decide +kernel), by decide +kernel⟩
theorem g665 : (Jvm.Cond.methodLink "LayeredLauncherLaw" (40 : Nat) ({ cls := "LayeredLauncherModel", name := "pack", desc := "(IIZ)I" } : Jvm.MethodName)) ∈ gt := List.mem_filter.mpr ⟨List.mem_of_getElem? (i := 665) (by decide +kernel), by decide +kernel⟩
theorem g666 : (Jvm.Cond.instanceMethod ({ cls := "LayeredLauncherModel", name := "pack", desc := "(IIZ)I" } : Jvm.MethodName)) ∈ gt := List.mem_filter.mpr ⟨List.mem_of_getElem? (i := 666) (by decide +kernel), by decide +kernel⟩
theorem g667 : (Jvm.Cond.selects "LayeredLauncherModel" ({ cls := "LayeredLauncherModel", name := "pack", desc := "(IIZ)I" } : Jvm.MethodName) ({ cls := "LayeredLauncherModel", name := "pack", desc := "(IIZ)I" } : Jvm.MethodName)) ∈ gt := List.mem_filter.mpr ⟨List.mem_of_getElem? (i := 667) (by decide +kernel), by decide +kernel⟩
theorem g668 : (Jvm.Cond.code ({ cls := "LayeredLauncherModel", name := "pack", desc := "(IIZ)I" } : Jvm.MethodName) prog_9_method_28_code (4 : Nat) (Option.some Jvm.ClassFile.FieldType.int)) ∈ gt := List.mem_filter.mpr ⟨List.mem_of_getElem? (i := 668) (by decide +kernel), by decide +kernel⟩
theorem g669 : (Jvm.Cond.methodLink "LayeredLauncherLaw" (44 : Nat) ({ cls := "LayeredLauncherModel", name := "retire", desc := "(I)I" } : Jvm.MethodName)) ∈ gt := List.mem_filter.mpr ⟨List.mem_of_getElem? (i := 669) (by decide +kernel), by decide +kernel⟩
theorem g670 : (Jvm.Cond.instanceMethod ({ cls := "LayeredLauncherModel", name := "retire", desc := "(I)I" } : Jvm.MethodName)) ∈ gt := List.mem_filter.mpr ⟨List.mem_of_getElem? (i := 670) (by decide +kernel), by decide +kernel⟩
theorem g671 : (Jvm.Cond.selects "LayeredLauncherModel" ({ cls := "LayeredLauncherModel", name := "retire", desc := "(I)I" } : Jvm.MethodName) ({ cls := "LayeredLauncherModel", name := "retire", desc := "(I)I" } : Jvm.MethodName)) ∈ gt := List.mem_filter.mpr ⟨List.mem_of_getElem? (i := 671) (by decide +kernel), by decide +kernel⟩
theorem g672 : (Jvm.Cond.code ({ cls := "LayeredLauncherModel", name := "retire", desc := "(I)I" } : Jvm.MethodName) prog_9_method_29_code (2 : Nat) (Option.some Jvm.ClassFile.FieldType.int)) ∈ gt := List.mem_filter.mpr ⟨List.mem_of_getElem? (i := 672) (by decide +kernel), by decide +kernel⟩
theorem g673 : (Jvm.Cond.methodLink "LayeredLauncherLaw" (48 : Nat) ({ cls := "LayeredLauncherModel", name := "compare", desc := "()I" } : Jvm.MethodName)) ∈ gt := List.mem_filter.mpr ⟨List.mem_of_getElem? (i := 673) (by decide +kernel), by decide +kernel⟩
theorem g674 : (Jvm.Cond.instanceMethod ({ cls := "LayeredLauncherModel", name := "compare", desc := "()I" } : Jvm.MethodName)) ∈ gt := List.mem_filter.mpr ⟨List.mem_of_getElem? (i := 674) (by decide +kernel), by decide +kernel⟩
theorem g675 : (Jvm.Cond.selects "LayeredLauncherModel" ({ cls := "LayeredLauncherModel", name := "compare", desc := "()I" } : Jvm.MethodName) ({ cls := "LayeredLauncherModel", name := "compare", desc := "()I" } : Jvm.MethodName)) ∈ gt := List.mem_filter.mpr ⟨List.mem_of_getElem? (i := 675) (by decide +kernel), by decide +kernel⟩
theorem g676 : (Jvm.Cond.code ({ cls := "LayeredLauncherModel", name := "compare", desc := "()I" } : Jvm.MethodName) prog_9_method_30_code (3 : Nat) (Option.some Jvm.ClassFile.FieldType.int)) ∈ gt := List.mem_filter.mpr ⟨List.mem_of_getElem? (i := 676) (by decide +kernel), by decide +kernel⟩
theorem g677 : (Jvm.Cond.methodLink "LayeredLauncherLaw" (52 : Nat) ({ cls := "LayeredLauncherModel", name := "resolve", desc := "()I" } : Jvm.MethodName)) ∈ gt := List.mem_filter.mpr ⟨List.mem_of_getElem? (i := 677) (by decide +kernel), by decide +kernel⟩
theorem g678 : (Jvm.Cond.instanceMethod ({ cls := "LayeredLauncherModel", name := "resolve", desc := "()I" } : Jvm.MethodName)) ∈ gt := List.mem_filter.mpr ⟨List.mem_of_getElem? (i := 678) (by decide +kernel), by decide +kernel⟩
theorem g679 : (Jvm.Cond.selects "LayeredLauncherModel" ({ cls := "LayeredLauncherModel", name := "resolve", desc := "()I" } : Jvm.MethodName) ({ cls := "LayeredLauncherModel", name := "resolve", desc := "()I" } : Jvm.MethodName)) ∈ gt := List.mem_filter.mpr ⟨List.mem_of_getElem? (i := 679) (by decide +kernel), by decide +kernel⟩
theorem g680 : (Jvm.Cond.code ({ cls := "LayeredLauncherModel", name := "resolve", desc := "()I" } : Jvm.MethodName) prog_9_method_35_code (6 : Nat) (Option.some Jvm.ClassFile.FieldType.int)) ∈ gt := List.mem_filter.mpr ⟨List.mem_of_getElem? (i := 680) (by decide +kernel), by decide +kernel⟩
theorem g713 : (Jvm.Cond.methodLink "LayeredLauncherLaw" (56 : Nat) ({ cls := "LayeredLauncherModel", name := "culprit", desc := "()I" } : Jvm.MethodName)) ∈ gt := List.mem_filter.mpr ⟨List.mem_of_getElem? (i := 713) (by decide +kernel), by decide +kernel⟩
theorem g714 : (Jvm.Cond.instanceMethod ({ cls := "LayeredLauncherModel", name := "culprit", desc := "()I" } : Jvm.MethodName)) ∈ gt := List.mem_filter.mpr ⟨List.mem_of_getElem? (i := 714) (by decide +kernel), by decide +kernel⟩
theorem g715 : (Jvm.Cond.selects "LayeredLauncherModel" ({ cls := "LayeredLauncherModel", name := "culprit", desc := "()I" } : Jvm.MethodName) ({ cls := "LayeredLauncherModel", name := "culprit", desc := "()I" } : Jvm.MethodName)) ∈ gt := List.mem_filter.mpr ⟨List.mem_of_getElem? (i := 715) (by decide +kernel), by decide +kernel⟩
theorem g716 : (Jvm.Cond.code ({ cls := "LayeredLauncherModel", name := "culprit", desc := "()I" } : Jvm.MethodName) prog_9_method_36_code (1 : Nat) (Option.some Jvm.ClassFile.FieldType.int)) ∈ gt := List.mem_filter.mpr ⟨List.mem_of_getElem? (i := 716) (by decide +kernel), by decide +kernel⟩
theorem g717 : (Jvm.Cond.methodLink "LayeredLauncherLaw" (60 : Nat) ({ cls := "LayeredLauncherModel", name := "entry", desc := "(I)I" } : Jvm.MethodName)) ∈ gt := List.mem_filter.mpr ⟨List.mem_of_getElem? (i := 717) (by decide +kernel), by decide +kernel⟩
theorem g718 : (Jvm.Cond.instanceMethod ({ cls := "LayeredLauncherModel", name := "entry", desc := "(I)I" } : Jvm.MethodName)) ∈ gt := List.mem_filter.mpr ⟨List.mem_of_getElem? (i := 718) (by decide +kernel), by decide +kernel⟩
theorem g719 : (Jvm.Cond.selects "LayeredLauncherModel" ({ cls := "LayeredLauncherModel", name := "entry", desc := "(I)I" } : Jvm.MethodName) ({ cls := "LayeredLauncherModel", name := "entry", desc := "(I)I" } : Jvm.MethodName)) ∈ gt := List.mem_filter.mpr ⟨List.mem_of_getElem? (i := 719) (by decide +kernel), by decide +kernel⟩
theorem g720 : (Jvm.Cond.code ({ cls := "LayeredLauncherModel", name := "entry", desc := "(I)I" } : Jvm.MethodName) prog_9_method_37_code (2 : Nat) (Option.some Jvm.ClassFile.FieldType.int)) ∈ gt := List.mem_filter.mpr ⟨List.mem_of_getElem? (i := 720) (by decide +kernel), by decide +kernel⟩
theorem g721 : (Jvm.Cond.methodLink "LayeredLauncherLaw" (64 : Nat) ({ cls := "LayeredLauncherModel", name := "depth", desc := "(I)I" } : Jvm.MethodName)) ∈ gt := List.mem_filter.mpr ⟨List.mem_of_getElem? (i := 721) (by decide +kernel), by decide +kernel⟩
theorem g722 : (Jvm.Cond.instanceMethod ({ cls := "LayeredLauncherModel", name := "depth", desc := "(I)I" } : Jvm.MethodName)) ∈ gt := List.mem_filter.mpr ⟨List.mem_of_getElem? (i := 722) (by decide +kernel), by decide +kernel⟩
theorem g723 : (Jvm.Cond.selects "LayeredLauncherModel" ({ cls := "LayeredLauncherModel", name := "depth", desc := "(I)I" } : Jvm.MethodName) ({ cls := "LayeredLauncherModel", name := "depth", desc := "(I)I" } : Jvm.MethodName)) ∈ gt := List.mem_filter.mpr ⟨List.mem_of_getElem? (i := 723) (by decide +kernel), by decide +kernel⟩
theorem g724 : (Jvm.Cond.code ({ cls := "LayeredLauncherModel", name := "depth", desc := "(I)I" } : Jvm.MethodName) prog_9_method_38_code (2 : Nat) (Option.some Jvm.ClassFile.FieldType.int)) ∈ gt := List.mem_filter.mpr ⟨List.mem_of_getElem? (i := 724) (by decide +kernel), by decide +kernel⟩
theorem g725 : (Jvm.Cond.methodLink "LayeredLauncherLaw" (68 : Nat) ({ cls := "LayeredLauncherModel", name := "parent", desc := "(I)I" } : Jvm.MethodName)) ∈ gt := List.mem_filter.mpr ⟨List.mem_of_getElem? (i := 725) (by decide +kernel), by decide +kernel⟩
theorem g726 : (Jvm.Cond.instanceMethod ({ cls := "LayeredLauncherModel", name := "parent", desc := "(I)I" } : Jvm.MethodName)) ∈ gt := List.mem_filter.mpr ⟨List.mem_of_getElem? (i := 726) (by decide +kernel), by decide +kernel⟩
theorem g727 : (Jvm.Cond.selects "LayeredLauncherModel" ({ cls := "LayeredLauncherModel", name := "parent", desc := "(I)I" } : Jvm.MethodName) ({ cls := "LayeredLauncherModel", name := "parent", desc := "(I)I" } : Jvm.MethodName)) ∈ gt := List.mem_filter.mpr ⟨List.mem_of_getElem? (i := 727) (by decide +kernel), by decide +kernel⟩
theorem g728 : (Jvm.Cond.code ({ cls := "LayeredLauncherModel", name := "parent", desc := "(I)I" } : Jvm.MethodName) prog_9_method_39_code (2 : Nat) (Option.some Jvm.ClassFile.FieldType.int)) ∈ gt := List.mem_filter.mpr ⟨List.mem_of_getElem? (i := 728) (by decide +kernel), by decide +kernel⟩
theorem g729 : (Jvm.Cond.methodLink "LayeredLauncherLaw" (73 : Nat) ({ cls := "LayeredLauncherModel", name := "find", desc := "(II)I" } : Jvm.MethodName)) ∈ gt := List.mem_filter.mpr ⟨List.mem_of_getElem? (i := 729) (by decide +kernel), by decide +kernel⟩
theorem g730 : (Jvm.Cond.instanceMethod ({ cls := "LayeredLauncherModel", name := "find", desc := "(II)I" } : Jvm.MethodName)) ∈ gt := List.mem_filter.mpr ⟨List.mem_of_getElem? (i := 730) (by decide +kernel), by decide +kernel⟩
theorem g731 : (Jvm.Cond.selects "LayeredLauncherModel" ({ cls := "LayeredLauncherModel", name := "find", desc := "(II)I" } : Jvm.MethodName) ({ cls := "LayeredLauncherModel", name := "find", desc := "(II)I" } : Jvm.MethodName)) ∈ gt := List.mem_filter.mpr ⟨List.mem_of_getElem? (i := 731) (by decide +kernel), by decide +kernel⟩
theorem g732 : (Jvm.Cond.code ({ cls := "LayeredLauncherModel", name := "find", desc := "(II)I" } : Jvm.MethodName) prog_9_method_40_code (5 : Nat) (Option.some Jvm.ClassFile.FieldType.int)) ∈ gt := List.mem_filter.mpr ⟨List.mem_of_getElem? (i := 732) (by decide +kernel), by decide +kernel⟩
theorem g733 : (Jvm.Cond.methodLink "LayeredLauncherLaw" (77 : Nat) ({ cls := "LayeredLauncherModel", name := "text", desc := "(II)I" } : Jvm.MethodName)) ∈ gt := List.mem_filter.mpr ⟨List.mem_of_getElem? (i := 733) (by decide +kernel), by decide +kernel⟩
theorem g734 : (Jvm.Cond.instanceMethod ({ cls := "LayeredLauncherModel", name := "text", desc := "(II)I" } : Jvm.MethodName)) ∈ gt := List.mem_filter.mpr ⟨List.mem_of_getElem? (i := 734) (by decide +kernel), by decide +kernel⟩
theorem g735 : (Jvm.Cond.selects "LayeredLauncherModel" ({ cls := "LayeredLauncherModel", name := "text", desc := "(II)I" } : Jvm.MethodName) ({ cls := "LayeredLauncherModel", name := "text", desc := "(II)I" } : Jvm.MethodName)) ∈ gt := List.mem_filter.mpr ⟨List.mem_of_getElem? (i := 735) (by decide +kernel), by decide +kernel⟩
theorem g736 : (Jvm.Cond.code ({ cls := "LayeredLauncherModel", name := "text", desc := "(II)I" } : Jvm.MethodName) prog_9_method_41_code (3 : Nat) (Option.some Jvm.ClassFile.FieldType.int)) ∈ gt := List.mem_filter.mpr ⟨List.mem_of_getElem? (i := 736) (by decide +kernel), by decide +kernel⟩
theorem g737 : (Jvm.Cond.methodLink "LayeredLauncherLaw" (81 : Nat) ({ cls := "LayeredLauncherModel", name := "count", desc := "(I)I" } : Jvm.MethodName)) ∈ gt := List.mem_filter.mpr ⟨List.mem_of_getElem? (i := 737) (by decide +kernel), by decide +kernel⟩
theorem g738 : (Jvm.Cond.instanceMethod ({ cls := "LayeredLauncherModel", name := "count", desc := "(I)I" } : Jvm.MethodName)) ∈ gt := List.mem_filter.mpr ⟨List.mem_of_getElem? (i := 738) (by decide +kernel), by decide +kernel⟩
theorem g739 : (Jvm.Cond.selects "LayeredLauncherModel" ({ cls := "LayeredLauncherModel", name := "count", desc := "(I)I" } : Jvm.MethodName) ({ cls := "LayeredLauncherModel", name := "count", desc := "(I)I" } : Jvm.MethodName)) ∈ gt := List.mem_filter.mpr ⟨List.mem_of_getElem? (i := 739) (by decide +kernel), by decide +kernel⟩
theorem g740 : (Jvm.Cond.code ({ cls := "LayeredLauncherModel", name := "count", desc := "(I)I" } : Jvm.MethodName) prog_9_method_42_code (4 : Nat) (Option.some Jvm.ClassFile.FieldType.int)) ∈ gt := List.mem_filter.mpr ⟨List.mem_of_getElem? (i := 740) (by decide +kernel), by decide +kernel⟩
theorem M_LW_9 : hq_MI gt "LayeredLauncherLaw" 9 y_LL_init b_LL_init 1 ((Option.none : Option Jvm.ClassFile.FieldType)) 0 := ⟨g51, g36, g49, g50, rfl, ⟨by decide, by decide, by decide +kernel⟩⟩
theorem M_LW_12 : hq_MI gt "LayeredLauncherLaw" 12 y_MD_init b_MD_init 1 ((Option.none : Option Jvm.ClassFile.FieldType)) 0 := ⟨g484, g39, g482, g483, rfl, ⟨by decide, by decide, by decide +kernel⟩⟩
theorem M_LW_13 : hq_MV gt vwCl "LayeredLauncherLaw" 13 0 y_LL_type b_LL_type 2 ((Option.some Jvm.ClassFile.FieldType.int)) 1 := ⟨g127, g36, g124, g125, g126, ⟨_, rfl, rfl⟩, ⟨by decide, by decide, by decide +kernel⟩⟩
theorem M_LW_17 : hq_MV gt vwCl "LayeredLauncherLaw" 17 7 y_MD_type b_MD_type 2 ((Option.some Jvm.ClassFile.FieldType.int)) 1 := ⟨g578, g39, g575, g576, g577, ⟨_, rfl, rfl⟩, ⟨by decide, by decide, by decide +kernel⟩⟩
theorem M_LW_18 : hq_MV gt vwCl "LayeredLauncherLaw" 18 0 y_LL_wipe b_LL_wipe 2 ((Option.some Jvm.ClassFile.FieldType.int)) 0 := ⟨g135, g36, g132, g133, g134, ⟨_, rfl, rfl⟩, ⟨by decide, by decide, by decide +kernel⟩⟩
theorem M_LW_22 : hq_MV gt vwCl "LayeredLauncherLaw" 22 7 y_MD_wipe b_MD_wipe 2 ((Option.some Jvm.ClassFile.FieldType.int)) 0 := ⟨g582, g39, g579, g580, g581, ⟨_, rfl, rfl⟩, ⟨by decide, by decide, by decide +kernel⟩⟩
theorem M_LW_23 : hq_MV gt vwCl "LayeredLauncherLaw" 23 0 y_LL_publish b_LL_publish 7 ((Option.some Jvm.ClassFile.FieldType.int)) 0 := ⟨g143, g36, g140, g141, g142, ⟨_, rfl, rfl⟩, ⟨by decide, by decide, by decide +kernel⟩⟩
theorem M_LW_26 : hq_MV gt vwCl "LayeredLauncherLaw" 26 7 y_MD_publish b_MD_publish 3 ((Option.some Jvm.ClassFile.FieldType.int)) 0 := ⟨g586, g39, g583, g584, g585, ⟨_, rfl, rfl⟩, ⟨by decide, by decide, by decide +kernel⟩⟩
theorem M_LW_27 : hq_MV gt vwCl "LayeredLauncherLaw" 27 0 y_LL_depend b_LL_depend 8 ((Option.some Jvm.ClassFile.FieldType.int)) 2 := ⟨g307, g36, g304, g305, g306, ⟨_, rfl, rfl⟩, ⟨by decide, by decide, by decide +kernel⟩⟩
theorem M_LW_31 : hq_MV gt vwCl "LayeredLauncherLaw" 31 7 y_MD_depend b_MD_depend 6 ((Option.some Jvm.ClassFile.FieldType.int)) 2 := ⟨g648, g39, g645, g646, g647, ⟨_, rfl, rfl⟩, ⟨by decide, by decide, by decide +kernel⟩⟩
theorem M_LW_32 : hq_MV gt vwCl "LayeredLauncherLaw" 32 0 y_LL_exclude b_LL_exclude 7 ((Option.some Jvm.ClassFile.FieldType.int)) 1 := ⟨g357, g36, g354, g355, g356, ⟨_, rfl, rfl⟩, ⟨by decide, by decide, by decide +kernel⟩⟩
theorem M_LW_35 : hq_MV gt vwCl "LayeredLauncherLaw" 35 7 y_MD_exclude b_MD_exclude 5 ((Option.some Jvm.ClassFile.FieldType.int)) 1 := ⟨g664, g39, g661, g662, g663, ⟨_, rfl, rfl⟩, ⟨by decide, by decide, by decide +kernel⟩⟩
theorem M_LW_36 : hq_MV gt vwCl "LayeredLauncherLaw" 36 0 y_LL_pack b_LL_pack 5 ((Option.some Jvm.ClassFile.FieldType.int)) 3 := ⟨g370, g36, g367, g368, g369, ⟨_, rfl, rfl⟩, ⟨by decide, by decide, by decide +kernel⟩⟩
theorem M_LW_40 : hq_MV gt vwCl "LayeredLauncherLaw" 40 7 y_MD_pack b_MD_pack 4 ((Option.some Jvm.ClassFile.FieldType.int)) 3 := ⟨g668, g39, g665, g666, g667, ⟨_, rfl, rfl⟩, ⟨by decide, by decide, by decide +kernel⟩⟩
theorem M_LW_41 : hq_MV gt vwCl "LayeredLauncherLaw" 41 0 y_LL_retire b_LL_retire 3 ((Option.some Jvm.ClassFile.FieldType.int)) 1 := ⟨g381, g36, g378, g379, g380, ⟨_, rfl, rfl⟩, ⟨by decide, by decide, by decide +kernel⟩⟩
theorem M_LW_44 : hq_MV gt vwCl "LayeredLauncherLaw" 44 7 y_MD_retire b_MD_retire 2 ((Option.some Jvm.ClassFile.FieldType.int)) 1 := ⟨g672, g39, g669, g670, g671, ⟨_, rfl, rfl⟩, ⟨by decide, by decide, by decide +kernel⟩⟩
theorem M_LW_45 : hq_MV gt vwCl "LayeredLauncherLaw" 45 0 y_LL_compare b_LL_compare 5 ((Option.some Jvm.ClassFile.FieldType.int)) 0 := ⟨g385, g36, g382, g383, g384, ⟨_, rfl, rfl⟩, ⟨by decide, by decide, by decide +kernel⟩⟩
theorem M_LW_48 : hq_MV gt vwCl "LayeredLauncherLaw" 48 7 y_MD_compare b_MD_compare 3 ((Option.some Jvm.ClassFile.FieldType.int)) 0 := ⟨g676, g39, g673, g674, g675, ⟨_, rfl, rfl⟩, ⟨by decide, by decide, by decide +kernel⟩⟩
theorem M_LW_49 : hq_MV gt vwCl "LayeredLauncherLaw" 49 0 y_LL_resolve b_LL_resolve 8 ((Option.some Jvm.ClassFile.FieldType.int)) 0 := ⟨g390, g36, g387, g388, g389, ⟨_, rfl, rfl⟩, ⟨by decide, by decide, by decide +kernel⟩⟩
theorem M_LW_52 : hq_MV gt vwCl "LayeredLauncherLaw" 52 7 y_MD_resolve b_MD_resolve 6 ((Option.some Jvm.ClassFile.FieldType.int)) 0 := ⟨g680, g39, g677, g678, g679, ⟨_, rfl, rfl⟩, ⟨by decide, by decide, by decide +kernel⟩⟩
theorem M_LW_53 : hq_MV gt vwCl "LayeredLauncherLaw" 53 0 y_LL_culprit b_LL_culprit 1 ((Option.some Jvm.ClassFile.FieldType.int)) 0 := ⟨g422, g36, g419, g420, g421, ⟨_, rfl, rfl⟩, ⟨by decide, by decide, by decide +kernel⟩⟩
theorem M_LW_56 : hq_MV gt vwCl "LayeredLauncherLaw" 56 7 y_MD_culprit b_MD_culprit 1 ((Option.some Jvm.ClassFile.FieldType.int)) 0 := ⟨g716, g39, g713, g714, g715, ⟨_, rfl, rfl⟩, ⟨by decide, by decide, by decide +kernel⟩⟩
theorem M_LW_57 : hq_MV gt vwCl "LayeredLauncherLaw" 57 0 y_LL_entry b_LL_entry 2 ((Option.some Jvm.ClassFile.FieldType.int)) 1 := ⟨g426, g36, g423, g424, g425, ⟨_, rfl, rfl⟩, ⟨by decide, by decide, by decide +kernel⟩⟩
theorem M_LW_60 : hq_MV gt vwCl "LayeredLauncherLaw" 60 7 y_MD_entry b_MD_entry 2 ((Option.some Jvm.ClassFile.FieldType.int)) 1 := ⟨g720, g39, g717, g718, g719, ⟨_, rfl, rfl⟩, ⟨by decide, by decide, by decide +kernel⟩⟩
theorem M_LW_61 : hq_MV gt vwCl "LayeredLauncherLaw" 61 0 y_LL_depth b_LL_depth 2 ((Option.some Jvm.ClassFile.FieldType.int)) 1 := ⟨g434, g36, g431, g432, g433, ⟨_, rfl, rfl⟩, ⟨by decide, by decide, by decide +kernel⟩⟩
theorem M_LW_64 : hq_MV gt vwCl "LayeredLauncherLaw" 64 7 y_MD_depth b_MD_depth 2 ((Option.some Jvm.ClassFile.FieldType.int)) 1 := ⟨g724, g39, g721, g722, g723, ⟨_, rfl, rfl⟩, ⟨by decide, by decide, by decide +kernel⟩⟩
theorem M_LW_65 : hq_MV gt vwCl "LayeredLauncherLaw" 65 0 y_LL_parent b_LL_parent 2 ((Option.some Jvm.ClassFile.FieldType.int)) 1 := ⟨g438, g36, g435, g436, g437, ⟨_, rfl, rfl⟩, ⟨by decide, by decide, by decide +kernel⟩⟩
theorem M_LW_68 : hq_MV gt vwCl "LayeredLauncherLaw" 68 7 y_MD_parent b_MD_parent 2 ((Option.some Jvm.ClassFile.FieldType.int)) 1 := ⟨g728, g39, g725, g726, g727, ⟨_, rfl, rfl⟩, ⟨by decide, by decide, by decide +kernel⟩⟩
theorem M_LW_69 : hq_MV gt vwCl "LayeredLauncherLaw" 69 0 y_LL_find b_LL_find 4 ((Option.some Jvm.ClassFile.FieldType.int)) 2 := ⟨g442, g36, g439, g440, g441, ⟨_, rfl, rfl⟩, ⟨by decide, by decide, by decide +kernel⟩⟩
theorem M_LW_73 : hq_MV gt vwCl "LayeredLauncherLaw" 73 7 y_MD_find b_MD_find 5 ((Option.some Jvm.ClassFile.FieldType.int)) 2 := ⟨g732, g39, g729, g730, g731, ⟨_, rfl, rfl⟩, ⟨by decide, by decide, by decide +kernel⟩⟩
theorem M_LW_74 : hq_MV gt vwCl "LayeredLauncherLaw" 74 0 y_LL_text b_LL_text 4 ((Option.some Jvm.ClassFile.FieldType.int)) 2 := ⟨g454, g36, g451, g452, g453, ⟨_, rfl, rfl⟩, ⟨by decide, by decide, by decide +kernel⟩⟩
theorem M_LW_77 : hq_MV gt vwCl "LayeredLauncherLaw" 77 7 y_MD_text b_MD_text 3 ((Option.some Jvm.ClassFile.FieldType.int)) 2 := ⟨g736, g39, g733, g734, g735, ⟨_, rfl, rfl⟩, ⟨by decide, by decide, by decide +kernel⟩⟩
theorem M_LW_78 : hq_MV gt vwCl "LayeredLauncherLaw" 78 0 y_LL_count b_LL_count 2 ((Option.some Jvm.ClassFile.FieldType.int)) 1 := ⟨g458, g36, g455, g456, g457, ⟨_, rfl, rfl⟩, ⟨by decide, by decide, by decide +kernel⟩⟩
theorem M_LW_81 : hq_MV gt vwCl "LayeredLauncherLaw" 81 7 y_MD_count b_MD_count 4 ((Option.some Jvm.ClassFile.FieldType.int)) 1 := ⟨g740, g39, g737, g738, g739, ⟨_, rfl, rfl⟩, ⟨by decide, by decide, by decide +kernel⟩⟩
set_option maxRecDepth 100000 in
set_option maxHeartbeats 4000000 in
theorem k_LW_law_L18 {p : Program} {l : Launch} {e : Env} {s : State} {m : MethodId} {below : List Frame} {meth : Method} {c : Code} {G : hp_G} {b L : Nat} {xs : Nat → Int32} (C : hq_C p s m #[Value.ref b] meth c code 4 ret "LayeredLauncherLaw" meth.name gt G vwCl aTs) (hX : va_X b L xs s s.heap) (hbl : b < s.heap.size) : ∀ (n : Nat) (y1 : Option Nat) (y2 : Option Nat) (y3 : Int32) (h : hp_H), f_LW_law_L18 xs L n y1 y2 y3 h = some () → ∀ cN sN : Nat, cN + n * 7 ≤ 600000 → sN + n * 72 ≤ 7302250 → ∀ (H : Heap) (locs : List Loc), hp_I G vwCl s.heap.size s.heap h H locs → ∀ ls : Array Slot, lv_has ls 4 [(0, .ref b), (1, va_rf y1), (2, va_rf y2), (3, .int y3)] → W p l e room_1 s m #[Value.ref b] below meth c H locs cN sN (lw_Z below #[Value.ref b] s) (F0 m 18 ls []) := by
  have hbA : ¬ (fun q : Nat => s.heap.size ≤ q) b := Nat.not_le.mpr hbl
  intro n
  induction n with
  | zero => intro y1 y2 y3 h hf; simp [f_LW_law_L18] at hf
  | succ n ih =>
    intro y1 y2 y3 h hf cN sN hcN hsN H locs I ls hl
    simp only [f_LW_law_L18] at hf
    refine lv_iload_n C.1.1 C.1.2.1 d_LW_law_18 rfl (lv_at hl 3 rfl) ?_
    refine lv_aload_n C.1.1 C.1.2.1 d_LW_law_19 rfl (lv_at hl 0 rfl) ?_
    refine va_slen C.1.1 C.1.2.1 hX hbl hbA I.2.2 d_LW_law_20 ?_
    refine lv_iconst (v := 4) C.1.1 C.1.2.1 d_LW_law_21 (by decide) ?_
    refine lv_isub C.1.1 C.1.2.1 d_LW_law_22 ?_
    refine lv_icmp_gt (tgt := 518) C.1.1 C.1.2.1 d_LW_law_23 (by decide) (fun c11 => ?_) (fun c11 => ?_)
    · rw [if_pos c11] at hf
      refine lv_iconst (v := 1) C.1.1 C.1.2.1 d_LW_law_518 (by decide) ?_
      refine va_forget (fun q hq => I.2.2.2.2 q hq) ?_
      refine W.widen (k := 600000) (n := 7302250) (by omega) (by omega) ?_
      exact lw_ret C.1.1 C.1.2.1 C.2.2.1 C.2.2.2.1 d_LW_law_519
    · rw [if_neg c11] at hf
      refine lv_aload_n C.1.1 C.1.2.1 d_LW_law_26 rfl (lv_at hl 0 rfl) ?_
      refine lv_iload_n C.1.1 C.1.2.1 d_LW_law_27 rfl (lv_at hl 3 rfl) ?_
      replace hf := Option.bind_eq_some_iff.mp hf
      obtain ⟨x12, e13, hf⟩ := hf
      refine hq_sld C.1.1 C.1.2.1 hX hbl hbA I.2.2 e13 d_LW_law_28 ?_
      refine lv_bipush (v := 15) C.1.1 C.1.2.1 d_LW_law_29 (by decide) ?_
      refine lv_iand C.1.1 C.1.2.1 d_LW_law_31 ?_
      by_cases c14 : (x12 &&& (15 : Int32)) = 0
      · rw [if_pos c14] at hf
        refine lv_tableIn (tgt := 112) C.1.1 C.1.2.1 d_LW_law_32 (by rw [c14]; decide) (by rw [c14]; decide) (by rw [c14]; rfl) (by decide) ?_
        refine hq_aload_n C.1.1 C.1.2.1 d_LW_law_112 rfl (lv_at hl 1 rfl) ?_
        refine lv_aload_n C.1.1 C.1.2.1 d_LW_law_113 rfl (lv_at hl 0 rfl) ?_
        refine lv_iload_n C.1.1 C.1.2.1 d_LW_law_114 rfl (lv_at hl 3 rfl) ?_
        refine lv_iconst (v := 1) C.1.1 C.1.2.1 d_LW_law_115 (by decide) ?_
        refine lv_iadd C.1.1 C.1.2.1 d_LW_law_116 ?_
        replace hf := Option.bind_eq_some_iff.mp hf
        obtain ⟨x15, e16, hf⟩ := hf
        refine hq_sld C.1.1 C.1.2.1 hX hbl hbA I.2.2 e16 d_LW_law_117 ?_
        replace hf := Option.bind_eq_some_iff.mp hf
        obtain ⟨b19, e20, hf⟩ := hf
        obtain ⟨e20r, _, e20c⟩ := hp_o_inv e20
        replace hf := Option.bind_eq_some_iff.mp hf
        obtain ⟨q17, e18, hf⟩ := hf
        refine hq_callW gt_good C I hl.1 (k_LL_type l G s.heap.size _ b19 x15 q17 e18) M_LW_13 e20c e20r ⟨rfl, rfl⟩ ⟨Nat.le_of_ble_eq_true rfl, Nat.le_of_ble_eq_true rfl⟩ rfl (Nat.le_of_ble_eq_true rfl) d_LW_law_118 ⟨show _ ≤ 600000 by omega, show _ ≤ 7302250 by omega⟩ (fun H locs I => ?_)
        refine W.widen (k := cN + 0) (n := sN + 0) (by omega) (by omega) ?_
        refine hq_aload_n C.1.1 C.1.2.1 d_LW_law_121 rfl (lv_at hl 2 rfl) ?_
        refine lv_aload_n C.1.1 C.1.2.1 d_LW_law_122 rfl (lv_at hl 0 rfl) ?_
        refine lv_iload_n C.1.1 C.1.2.1 d_LW_law_123 rfl (lv_at hl 3 rfl) ?_
        refine lv_iconst (v := 1) C.1.1 C.1.2.1 d_LW_law_124 (by decide) ?_
        refine lv_iadd C.1.1 C.1.2.1 d_LW_law_125 ?_
        replace hf := Option.bind_eq_some_iff.mp hf
        obtain ⟨x21, e22, hf⟩ := hf
        refine hq_sld C.1.1 C.1.2.1 hX hbl hbA I.2.2 e22 d_LW_law_126 ?_
        replace hf := Option.bind_eq_some_iff.mp hf
        obtain ⟨b25, e26, hf⟩ := hf
        obtain ⟨e26r, _, e26c⟩ := hp_o_inv e26
        replace hf := Option.bind_eq_some_iff.mp hf
        obtain ⟨q23, e24, hf⟩ := hf
        refine hq_callW gt_good C I hl.1 (k_MD_type l G s.heap.size _ b25 x21 q23 e24) M_LW_17 e26c e26r ⟨rfl, rfl⟩ ⟨Nat.le_of_ble_eq_true rfl, Nat.le_of_ble_eq_true rfl⟩ rfl (Nat.le_of_ble_eq_true rfl) d_LW_law_127 ⟨show _ ≤ 600000 by omega, show _ ≤ 7302250 by omega⟩ (fun H locs I => ?_)
        refine W.widen (k := cN + 0) (n := sN + 0) (by omega) (by omega) ?_
        refine lv_icmp_eq (tgt := 512) C.1.1 C.1.2.1 d_LW_law_130 (by decide) (fun c27 => ?_) (fun c27 => ?_)
        · rw [if_pos c27] at hf
          refine lv_iinc (v := (y3 + 4)) (lv' := [(3, .int (y3 + 4)), (0, .ref b), (1, va_rf y1), (2, va_rf y2)]) C.1.1 C.1.2.1 d_LW_law_512 hl (k := 3) rfl rfl (by decide) (by first | rfl | simp [hq_cat, hq_catI, hq_catL]) (fun ls hl => ?_)
          refine lv_goto (tgt := 18) C.1.1 C.1.2.1 d_LW_law_515 (by decide) ?_
          refine W.widen (k := cN + 7) (n := sN + 72) (by omega) (by omega) ?_
          exact ih y1 y2 (y3 + 4) q23.2 hf (cN + 7) (sN + 72) (by omega) (by omega) _ _ I ls (lv_sub hl [1, 2, 3, 0] rfl)
        · rw [if_neg c27] at hf
          refine lv_iconst (v := 0) C.1.1 C.1.2.1 d_LW_law_133 (by decide) ?_
          cases hf
      rw [if_neg c14] at hf
      by_cases c28 : (x12 &&& (15 : Int32)) = 1
      · rw [if_pos c28] at hf
        refine lv_tableIn (tgt := 135) C.1.1 C.1.2.1 d_LW_law_32 (by rw [c28]; decide) (by rw [c28]; decide) (by rw [c28]; rfl) (by decide) ?_
        refine hq_aload_n C.1.1 C.1.2.1 d_LW_law_135 rfl (lv_at hl 1 rfl) ?_
        replace hf := Option.bind_eq_some_iff.mp hf
        obtain ⟨b31, e32, hf⟩ := hf
        obtain ⟨e32r, _, e32c⟩ := hp_o_inv e32
        replace hf := Option.bind_eq_some_iff.mp hf
        obtain ⟨q29, e30, hf⟩ := hf
        refine hq_callW gt_good C I hl.1 (k_LL_wipe l G s.heap.size _ b31 q29 e30) M_LW_18 e32c e32r ⟨rfl, rfl⟩ ⟨Nat.le_of_ble_eq_true rfl, Nat.le_of_ble_eq_true rfl⟩ rfl (Nat.le_of_ble_eq_true rfl) d_LW_law_136 ⟨show _ ≤ 600000 by omega, show _ ≤ 7302250 by omega⟩ (fun H locs I => ?_)
        refine W.widen (k := cN + 0) (n := sN + 0) (by omega) (by omega) ?_
        refine hq_aload_n C.1.1 C.1.2.1 d_LW_law_139 rfl (lv_at hl 2 rfl) ?_
        replace hf := Option.bind_eq_some_iff.mp hf
        obtain ⟨b35, e36, hf⟩ := hf
        obtain ⟨e36r, _, e36c⟩ := hp_o_inv e36
        replace hf := Option.bind_eq_some_iff.mp hf
        obtain ⟨q33, e34, hf⟩ := hf
        refine hq_callW gt_good C I hl.1 (k_MD_wipe l G s.heap.size _ b35 q33 e34) M_LW_22 e36c e36r ⟨rfl, rfl⟩ ⟨Nat.le_of_ble_eq_true rfl, Nat.le_of_ble_eq_true rfl⟩ rfl (Nat.le_of_ble_eq_true rfl) d_LW_law_140 ⟨show _ ≤ 600000 by omega, show _ ≤ 7302250 by omega⟩ (fun H locs I => ?_)
        refine W.widen (k := cN + 0) (n := sN + 0) (by omega) (by omega) ?_
        refine lv_icmp_eq (tgt := 512) C.1.1 C.1.2.1 d_LW_law_143 (by decide) (fun c37 => ?_) (fun c37 => ?_)
        · rw [if_pos c37] at hf
          refine lv_iinc (v := (y3 + 4)) (lv' := [(3, .int (y3 + 4)), (0, .ref b), (1, va_rf y1), (2, va_rf y2)]) C.1.1 C.1.2.1 d_LW_law_512 hl (k := 3) rfl rfl (by decide) (by first | rfl | simp [hq_cat, hq_catI, hq_catL]) (fun ls hl => ?_)
          refine lv_goto (tgt := 18) C.1.1 C.1.2.1 d_LW_law_515 (by decide) ?_
          refine W.widen (k := cN + 7) (n := sN + 72) (by omega) (by omega) ?_
          exact ih y1 y2 (y3 + 4) q33.2 hf (cN + 7) (sN + 72) (by omega) (by omega) _ _ I ls (lv_sub hl [1, 2, 3, 0] rfl)
        · rw [if_neg c37] at hf
          refine lv_iconst (v := 0) C.1.1 C.1.2.1 d_LW_law_146 (by decide) ?_
          cases hf
      rw [if_neg c28] at hf
      by_cases c38 : (x12 &&& (15 : Int32)) = 2
      · rw [if_pos c38] at hf
        refine lv_tableIn (tgt := 148) C.1.1 C.1.2.1 d_LW_law_32 (by rw [c38]; decide) (by rw [c38]; decide) (by rw [c38]; rfl) (by decide) ?_
        refine hq_aload_n C.1.1 C.1.2.1 d_LW_law_148 rfl (lv_at hl 1 rfl) ?_
        replace hf := Option.bind_eq_some_iff.mp hf
        obtain ⟨b41, e42, hf⟩ := hf
        obtain ⟨e42r, _, e42c⟩ := hp_o_inv e42
        replace hf := Option.bind_eq_some_iff.mp hf
        obtain ⟨q39, e40, hf⟩ := hf
        refine hq_callW gt_good C I hl.1 (k_LL_publish l G s.heap.size _ b41 q39 e40) M_LW_23 e42c e42r ⟨rfl, rfl⟩ ⟨Nat.le_of_ble_eq_true rfl, Nat.le_of_ble_eq_true rfl⟩ rfl (Nat.le_of_ble_eq_true rfl) d_LW_law_149 ⟨show _ ≤ 600000 by omega, show _ ≤ 7302250 by omega⟩ (fun H locs I => ?_)
        refine W.widen (k := cN + 6) (n := sN + 72) (by omega) (by omega) ?_
        refine hq_aload_n C.1.1 C.1.2.1 d_LW_law_152 rfl (lv_at hl 2 rfl) ?_
        replace hf := Option.bind_eq_some_iff.mp hf
        obtain ⟨b45, e46, hf⟩ := hf
        obtain ⟨e46r, _, e46c⟩ := hp_o_inv e46
        replace hf := Option.bind_eq_some_iff.mp hf
        obtain ⟨q43, e44, hf⟩ := hf
        refine hq_callW gt_good C I hl.1 (k_MD_publish l G s.heap.size _ b45 q43 e44) M_LW_26 e46c e46r ⟨rfl, rfl⟩ ⟨Nat.le_of_ble_eq_true rfl, Nat.le_of_ble_eq_true rfl⟩ rfl (Nat.le_of_ble_eq_true rfl) d_LW_law_153 ⟨show _ ≤ 600000 by omega, show _ ≤ 7302250 by omega⟩ (fun H locs I => ?_)
        refine W.widen (k := cN + 6) (n := sN + 72) (by omega) (by omega) ?_
        refine lv_icmp_eq (tgt := 512) C.1.1 C.1.2.1 d_LW_law_156 (by decide) (fun c47 => ?_) (fun c47 => ?_)
        · rw [if_pos c47] at hf
          refine lv_iinc (v := (y3 + 4)) (lv' := [(3, .int (y3 + 4)), (0, .ref b), (1, va_rf y1), (2, va_rf y2)]) C.1.1 C.1.2.1 d_LW_law_512 hl (k := 3) rfl rfl (by decide) (by first | rfl | simp [hq_cat, hq_catI, hq_catL]) (fun ls hl => ?_)
          refine lv_goto (tgt := 18) C.1.1 C.1.2.1 d_LW_law_515 (by decide) ?_
          refine W.widen (k := cN + 7) (n := sN + 72) (by omega) (by omega) ?_
          exact ih y1 y2 (y3 + 4) q43.2 hf (cN + 7) (sN + 72) (by omega) (by omega) _ _ I ls (lv_sub hl [1, 2, 3, 0] rfl)
        · rw [if_neg c47] at hf
          refine lv_iconst (v := 0) C.1.1 C.1.2.1 d_LW_law_159 (by decide) ?_
          cases hf
      rw [if_neg c38] at hf
      by_cases c48 : (x12 &&& (15 : Int32)) = 3
      · rw [if_pos c48] at hf
        refine lv_tableIn (tgt := 161) C.1.1 C.1.2.1 d_LW_law_32 (by rw [c48]; decide) (by rw [c48]; decide) (by rw [c48]; rfl) (by decide) ?_
        refine hq_aload_n C.1.1 C.1.2.1 d_LW_law_161 rfl (lv_at hl 1 rfl) ?_
        refine lv_aload_n C.1.1 C.1.2.1 d_LW_law_162 rfl (lv_at hl 0 rfl) ?_
        refine lv_iload_n C.1.1 C.1.2.1 d_LW_law_163 rfl (lv_at hl 3 rfl) ?_
        refine lv_iconst (v := 1) C.1.1 C.1.2.1 d_LW_law_164 (by decide) ?_
        refine lv_iadd C.1.1 C.1.2.1 d_LW_law_165 ?_
        replace hf := Option.bind_eq_some_iff.mp hf
        obtain ⟨x49, e50, hf⟩ := hf
        refine hq_sld C.1.1 C.1.2.1 hX hbl hbA I.2.2 e50 d_LW_law_166 ?_
        refine lv_aload_n C.1.1 C.1.2.1 d_LW_law_167 rfl (lv_at hl 0 rfl) ?_
        refine lv_iload_n C.1.1 C.1.2.1 d_LW_law_168 rfl (lv_at hl 3 rfl) ?_
        refine lv_iconst (v := 2) C.1.1 C.1.2.1 d_LW_law_169 (by decide) ?_
        refine lv_iadd C.1.1 C.1.2.1 d_LW_law_170 ?_
        replace hf := Option.bind_eq_some_iff.mp hf
        obtain ⟨x51, e52, hf⟩ := hf
        refine hq_sld C.1.1 C.1.2.1 hX hbl hbA I.2.2 e52 d_LW_law_171 ?_
        refine lv_if_eq (tgt := 179) C.1.1 C.1.2.1 d_LW_law_172 (by decide) (fun c53 => ?_) (fun c53 => ?_)
        · rw [if_pos c53] at hf
          refine lv_iconst (v := 0) C.1.1 C.1.2.1 d_LW_law_179 (by decide) ?_
          replace hf := Option.bind_eq_some_iff.mp hf
          obtain ⟨b56, e57, hf⟩ := hf
          obtain ⟨e57r, _, e57c⟩ := hp_o_inv e57
          replace hf := Option.bind_eq_some_iff.mp hf
          obtain ⟨q54, e55, hf⟩ := hf
          refine hq_callW gt_good C I hl.1 (k_LL_depend l G s.heap.size _ b56 x49 (0 : Int32) q54 e55) M_LW_27 e57c e57r ⟨rfl, rfl⟩ ⟨Nat.le_of_ble_eq_true rfl, Nat.le_of_ble_eq_true rfl⟩ rfl (Nat.le_of_ble_eq_true rfl) d_LW_law_180 ⟨show _ ≤ 600000 by omega, show _ ≤ 7302250 by omega⟩ (fun H locs I => ?_)
          refine W.widen (k := cN + 7) (n := sN + 39) (by omega) (by omega) ?_
          refine hq_aload_n C.1.1 C.1.2.1 d_LW_law_183 rfl (lv_at hl 2 rfl) ?_
          refine lv_aload_n C.1.1 C.1.2.1 d_LW_law_184 rfl (lv_at hl 0 rfl) ?_
          refine lv_iload_n C.1.1 C.1.2.1 d_LW_law_185 rfl (lv_at hl 3 rfl) ?_
          refine lv_iconst (v := 1) C.1.1 C.1.2.1 d_LW_law_186 (by decide) ?_
          refine lv_iadd C.1.1 C.1.2.1 d_LW_law_187 ?_
          replace hf := Option.bind_eq_some_iff.mp hf
          obtain ⟨x58, e59, hf⟩ := hf
          refine hq_sld C.1.1 C.1.2.1 hX hbl hbA I.2.2 e59 d_LW_law_188 ?_
          refine lv_aload_n C.1.1 C.1.2.1 d_LW_law_189 rfl (lv_at hl 0 rfl) ?_
          refine lv_iload_n C.1.1 C.1.2.1 d_LW_law_190 rfl (lv_at hl 3 rfl) ?_
          refine lv_iconst (v := 2) C.1.1 C.1.2.1 d_LW_law_191 (by decide) ?_
          refine lv_iadd C.1.1 C.1.2.1 d_LW_law_192 ?_
          replace hf := Option.bind_eq_some_iff.mp hf
          obtain ⟨x60, e61, hf⟩ := hf
          refine hq_sld C.1.1 C.1.2.1 hX hbl hbA I.2.2 e61 d_LW_law_193 ?_
          refine lv_if_eq (tgt := 201) C.1.1 C.1.2.1 d_LW_law_194 (by decide) (fun c62 => ?_) (fun c62 => ?_)
          · rw [if_pos c62] at hf
            refine lv_iconst (v := 0) C.1.1 C.1.2.1 d_LW_law_201 (by decide) ?_
            replace hf := Option.bind_eq_some_iff.mp hf
            obtain ⟨b65, e66, hf⟩ := hf
            obtain ⟨e66r, _, e66c⟩ := hp_o_inv e66
            replace hf := Option.bind_eq_some_iff.mp hf
            obtain ⟨q63, e64, hf⟩ := hf
            refine hq_callW gt_good C I hl.1 (k_MD_depend l G s.heap.size _ b65 x58 (0 : Int32) q63 e64) M_LW_31 e66c e66r ⟨rfl, rfl⟩ ⟨Nat.le_of_ble_eq_true rfl, Nat.le_of_ble_eq_true rfl⟩ rfl (Nat.le_of_ble_eq_true rfl) d_LW_law_202 ⟨show _ ≤ 600000 by omega, show _ ≤ 7302250 by omega⟩ (fun H locs I => ?_)
            refine W.widen (k := cN + 7) (n := sN + 39) (by omega) (by omega) ?_
            refine lv_icmp_eq (tgt := 512) C.1.1 C.1.2.1 d_LW_law_205 (by decide) (fun c67 => ?_) (fun c67 => ?_)
            · rw [if_pos c67] at hf
              refine lv_iinc (v := (y3 + 4)) (lv' := [(3, .int (y3 + 4)), (0, .ref b), (1, va_rf y1), (2, va_rf y2)]) C.1.1 C.1.2.1 d_LW_law_512 hl (k := 3) rfl rfl (by decide) (by first | rfl | simp [hq_cat, hq_catI, hq_catL]) (fun ls hl => ?_)
              refine lv_goto (tgt := 18) C.1.1 C.1.2.1 d_LW_law_515 (by decide) ?_
              refine W.widen (k := cN + 7) (n := sN + 72) (by omega) (by omega) ?_
              exact ih y1 y2 (y3 + 4) q63.2 hf (cN + 7) (sN + 72) (by omega) (by omega) _ _ I ls (lv_sub hl [1, 2, 3, 0] rfl)
            · rw [if_neg c67] at hf
              refine lv_iconst (v := 0) C.1.1 C.1.2.1 d_LW_law_208 (by decide) ?_
              cases hf
          · rw [if_neg c62] at hf
            refine lv_iconst (v := 1) C.1.1 C.1.2.1 d_LW_law_197 (by decide) ?_
            refine lv_goto (tgt := 202) C.1.1 C.1.2.1 d_LW_law_198 (by decide) ?_
            replace hf := Option.bind_eq_some_iff.mp hf
            obtain ⟨b70, e71, hf⟩ := hf
            obtain ⟨e71r, _, e71c⟩ := hp_o_inv e71
            replace hf := Option.bind_eq_some_iff.mp hf
            obtain ⟨q68, e69, hf⟩ := hf
            refine hq_callW gt_good C I hl.1 (k_MD_depend l G s.heap.size _ b70 x58 (1 : Int32) q68 e69) M_LW_31 e71c e71r ⟨rfl, rfl⟩ ⟨Nat.le_of_ble_eq_true rfl, Nat.le_of_ble_eq_true rfl⟩ rfl (Nat.le_of_ble_eq_true rfl) d_LW_law_202 ⟨show _ ≤ 600000 by omega, show _ ≤ 7302250 by omega⟩ (fun H locs I => ?_)
            refine W.widen (k := cN + 7) (n := sN + 39) (by omega) (by omega) ?_
            refine lv_icmp_eq (tgt := 512) C.1.1 C.1.2.1 d_LW_law_205 (by decide) (fun c72 => ?_) (fun c72 => ?_)
            · rw [if_pos c72] at hf
              refine lv_iinc (v := (y3 + 4)) (lv' := [(3, .int (y3 + 4)), (0, .ref b), (1, va_rf y1), (2, va_rf y2)]) C.1.1 C.1.2.1 d_LW_law_512 hl (k := 3) rfl rfl (by decide) (by first | rfl | simp [hq_cat, hq_catI, hq_catL]) (fun ls hl => ?_)
              refine lv_goto (tgt := 18) C.1.1 C.1.2.1 d_LW_law_515 (by decide) ?_
              refine W.widen (k := cN + 7) (n := sN + 72) (by omega) (by omega) ?_
              exact ih y1 y2 (y3 + 4) q68.2 hf (cN + 7) (sN + 72) (by omega) (by omega) _ _ I ls (lv_sub hl [1, 2, 3, 0] rfl)
            · rw [if_neg c72] at hf
              refine lv_iconst (v := 0) C.1.1 C.1.2.1 d_LW_law_208 (by decide) ?_
              cases hf
        · rw [if_neg c53] at hf
          refine lv_iconst (v := 1) C.1.1 C.1.2.1 d_LW_law_175 (by decide) ?_
          refine lv_goto (tgt := 180) C.1.1 C.1.2.1 d_LW_law_176 (by decide) ?_
          replace hf := Option.bind_eq_some_iff.mp hf
          obtain ⟨b75, e76, hf⟩ := hf
          obtain ⟨e76r, _, e76c⟩ := hp_o_inv e76
          replace hf := Option.bind_eq_some_iff.mp hf
          obtain ⟨q73, e74, hf⟩ := hf
          refine hq_callW gt_good C I hl.1 (k_LL_depend l G s.heap.size _ b75 x49 (1 : Int32) q73 e74) M_LW_27 e76c e76r ⟨rfl, rfl⟩ ⟨Nat.le_of_ble_eq_true rfl, Nat.le_of_ble_eq_true rfl⟩ rfl (Nat.le_of_ble_eq_true rfl) d_LW_law_180 ⟨show _ ≤ 600000 by omega, show _ ≤ 7302250 by omega⟩ (fun H locs I => ?_)
          refine W.widen (k := cN + 7) (n := sN + 39) (by omega) (by omega) ?_
          refine hq_aload_n C.1.1 C.1.2.1 d_LW_law_183 rfl (lv_at hl 2 rfl) ?_
          refine lv_aload_n C.1.1 C.1.2.1 d_LW_law_184 rfl (lv_at hl 0 rfl) ?_
          refine lv_iload_n C.1.1 C.1.2.1 d_LW_law_185 rfl (lv_at hl 3 rfl) ?_
          refine lv_iconst (v := 1) C.1.1 C.1.2.1 d_LW_law_186 (by decide) ?_
          refine lv_iadd C.1.1 C.1.2.1 d_LW_law_187 ?_
          replace hf := Option.bind_eq_some_iff.mp hf
          obtain ⟨x77, e78, hf⟩ := hf
          refine hq_sld C.1.1 C.1.2.1 hX hbl hbA I.2.2 e78 d_LW_law_188 ?_
          refine lv_aload_n C.1.1 C.1.2.1 d_LW_law_189 rfl (lv_at hl 0 rfl) ?_
          refine lv_iload_n C.1.1 C.1.2.1 d_LW_law_190 rfl (lv_at hl 3 rfl) ?_
          refine lv_iconst (v := 2) C.1.1 C.1.2.1 d_LW_law_191 (by decide) ?_
          refine lv_iadd C.1.1 C.1.2.1 d_LW_law_192 ?_
          replace hf := Option.bind_eq_some_iff.mp hf
          obtain ⟨x79, e80, hf⟩ := hf
          refine hq_sld C.1.1 C.1.2.1 hX hbl hbA I.2.2 e80 d_LW_law_193 ?_
          refine lv_if_eq (tgt := 201) C.1.1 C.1.2.1 d_LW_law_194 (by decide) (fun c81 => ?_) (fun c81 => ?_)
          · rw [if_pos c81] at hf
            refine lv_iconst (v := 0) C.1.1 C.1.2.1 d_LW_law_201 (by decide) ?_
            replace hf := Option.bind_eq_some_iff.mp hf
            obtain ⟨b84, e85, hf⟩ := hf
            obtain ⟨e85r, _, e85c⟩ := hp_o_inv e85
            replace hf := Option.bind_eq_some_iff.mp hf
            obtain ⟨q82, e83, hf⟩ := hf
            refine hq_callW gt_good C I hl.1 (k_MD_depend l G s.heap.size _ b84 x77 (0 : Int32) q82 e83) M_LW_31 e85c e85r ⟨rfl, rfl⟩ ⟨Nat.le_of_ble_eq_true rfl, Nat.le_of_ble_eq_true rfl⟩ rfl (Nat.le_of_ble_eq_true rfl) d_LW_law_202 ⟨show _ ≤ 600000 by omega, show _ ≤ 7302250 by omega⟩ (fun H locs I => ?_)
            refine W.widen (k := cN + 7) (n := sN + 39) (by omega) (by omega) ?_
            refine lv_icmp_eq (tgt := 512) C.1.1 C.1.2.1 d_LW_law_205 (by decide) (fun c86 => ?_) (fun c86 => ?_)
            · rw [if_pos c86] at hf
              refine lv_iinc (v := (y3 + 4)) (lv' := [(3, .int (y3 + 4)), (0, .ref b), (1, va_rf y1), (2, va_rf y2)]) C.1.1 C.1.2.1 d_LW_law_512 hl (k := 3) rfl rfl (by decide) (by first | rfl | simp [hq_cat, hq_catI, hq_catL]) (fun ls hl => ?_)
              refine lv_goto (tgt := 18) C.1.1 C.1.2.1 d_LW_law_515 (by decide) ?_
              refine W.widen (k := cN + 7) (n := sN + 72) (by omega) (by omega) ?_
              exact ih y1 y2 (y3 + 4) q82.2 hf (cN + 7) (sN + 72) (by omega) (by omega) _ _ I ls (lv_sub hl [1, 2, 3, 0] rfl)
            · rw [if_neg c86] at hf
              refine lv_iconst (v := 0) C.1.1 C.1.2.1 d_LW_law_208 (by decide) ?_
              cases hf
          · rw [if_neg c81] at hf
            refine lv_iconst (v := 1) C.1.1 C.1.2.1 d_LW_law_197 (by decide) ?_
            refine lv_goto (tgt := 202) C.1.1 C.1.2.1 d_LW_law_198 (by decide) ?_
            replace hf := Option.bind_eq_some_iff.mp hf
            obtain ⟨b89, e90, hf⟩ := hf
            obtain ⟨e90r, _, e90c⟩ := hp_o_inv e90
            replace hf := Option.bind_eq_some_iff.mp hf
            obtain ⟨q87, e88, hf⟩ := hf
            refine hq_callW gt_good C I hl.1 (k_MD_depend l G s.heap.size _ b89 x77 (1 : Int32) q87 e88) M_LW_31 e90c e90r ⟨rfl, rfl⟩ ⟨Nat.le_of_ble_eq_true rfl, Nat.le_of_ble_eq_true rfl⟩ rfl (Nat.le_of_ble_eq_true rfl) d_LW_law_202 ⟨show _ ≤ 600000 by omega, show _ ≤ 7302250 by omega⟩ (fun H locs I => ?_)
            refine W.widen (k := cN + 7) (n := sN + 39) (by omega) (by omega) ?_
            refine lv_icmp_eq (tgt := 512) C.1.1 C.1.2.1 d_LW_law_205 (by decide) (fun c91 => ?_) (fun c91 => ?_)
            · rw [if_pos c91] at hf
              refine lv_iinc (v := (y3 + 4)) (lv' := [(3, .int (y3 + 4)), (0, .ref b), (1, va_rf y1), (2, va_rf y2)]) C.1.1 C.1.2.1 d_LW_law_512 hl (k := 3) rfl rfl (by decide) (by first | rfl | simp [hq_cat, hq_catI, hq_catL]) (fun ls hl => ?_)
              refine lv_goto (tgt := 18) C.1.1 C.1.2.1 d_LW_law_515 (by decide) ?_
              refine W.widen (k := cN + 7) (n := sN + 72) (by omega) (by omega) ?_
              exact ih y1 y2 (y3 + 4) q87.2 hf (cN + 7) (sN + 72) (by omega) (by omega) _ _ I ls (lv_sub hl [1, 2, 3, 0] rfl)
            · rw [if_neg c91] at hf
              refine lv_iconst (v := 0) C.1.1 C.1.2.1 d_LW_law_208 (by decide) ?_
              cases hf
      rw [if_neg c48] at hf
      by_cases c92 : (x12 &&& (15 : Int32)) = 4
      · rw [if_pos c92] at hf
        refine lv_tableIn (tgt := 210) C.1.1 C.1.2.1 d_LW_law_32 (by rw [c92]; decide) (by rw [c92]; decide) (by rw [c92]; rfl) (by decide) ?_
        refine hq_aload_n C.1.1 C.1.2.1 d_LW_law_210 rfl (lv_at hl 1 rfl) ?_
        refine lv_aload_n C.1.1 C.1.2.1 d_LW_law_211 rfl (lv_at hl 0 rfl) ?_
        refine lv_iload_n C.1.1 C.1.2.1 d_LW_law_212 rfl (lv_at hl 3 rfl) ?_
        refine lv_iconst (v := 1) C.1.1 C.1.2.1 d_LW_law_213 (by decide) ?_
        refine lv_iadd C.1.1 C.1.2.1 d_LW_law_214 ?_
        replace hf := Option.bind_eq_some_iff.mp hf
        obtain ⟨x93, e94, hf⟩ := hf
        refine hq_sld C.1.1 C.1.2.1 hX hbl hbA I.2.2 e94 d_LW_law_215 ?_
        replace hf := Option.bind_eq_some_iff.mp hf
        obtain ⟨b97, e98, hf⟩ := hf
        obtain ⟨e98r, _, e98c⟩ := hp_o_inv e98
        replace hf := Option.bind_eq_some_iff.mp hf
        obtain ⟨q95, e96, hf⟩ := hf
        refine hq_callW gt_good C I hl.1 (k_LL_exclude l G s.heap.size _ b97 x93 q95 e96) M_LW_32 e98c e98r ⟨rfl, rfl⟩ ⟨Nat.le_of_ble_eq_true rfl, Nat.le_of_ble_eq_true rfl⟩ rfl (Nat.le_of_ble_eq_true rfl) d_LW_law_216 ⟨show _ ≤ 600000 by omega, show _ ≤ 7302250 by omega⟩ (fun H locs I => ?_)
        refine W.widen (k := cN + 0) (n := sN + 0) (by omega) (by omega) ?_
        refine hq_aload_n C.1.1 C.1.2.1 d_LW_law_219 rfl (lv_at hl 2 rfl) ?_
        refine lv_aload_n C.1.1 C.1.2.1 d_LW_law_220 rfl (lv_at hl 0 rfl) ?_
        refine lv_iload_n C.1.1 C.1.2.1 d_LW_law_221 rfl (lv_at hl 3 rfl) ?_
        refine lv_iconst (v := 1) C.1.1 C.1.2.1 d_LW_law_222 (by decide) ?_
        refine lv_iadd C.1.1 C.1.2.1 d_LW_law_223 ?_
        replace hf := Option.bind_eq_some_iff.mp hf
        obtain ⟨x99, e100, hf⟩ := hf
        refine hq_sld C.1.1 C.1.2.1 hX hbl hbA I.2.2 e100 d_LW_law_224 ?_
        replace hf := Option.bind_eq_some_iff.mp hf
        obtain ⟨b103, e104, hf⟩ := hf
        obtain ⟨e104r, _, e104c⟩ := hp_o_inv e104
        replace hf := Option.bind_eq_some_iff.mp hf
        obtain ⟨q101, e102, hf⟩ := hf
        refine hq_callW gt_good C I hl.1 (k_MD_exclude l G s.heap.size _ b103 x99 q101 e102) M_LW_35 e104c e104r ⟨rfl, rfl⟩ ⟨Nat.le_of_ble_eq_true rfl, Nat.le_of_ble_eq_true rfl⟩ rfl (Nat.le_of_ble_eq_true rfl) d_LW_law_225 ⟨show _ ≤ 600000 by omega, show _ ≤ 7302250 by omega⟩ (fun H locs I => ?_)
        refine W.widen (k := cN + 0) (n := sN + 0) (by omega) (by omega) ?_
        refine lv_icmp_eq (tgt := 512) C.1.1 C.1.2.1 d_LW_law_228 (by decide) (fun c105 => ?_) (fun c105 => ?_)
        · rw [if_pos c105] at hf
          refine lv_iinc (v := (y3 + 4)) (lv' := [(3, .int (y3 + 4)), (0, .ref b), (1, va_rf y1), (2, va_rf y2)]) C.1.1 C.1.2.1 d_LW_law_512 hl (k := 3) rfl rfl (by decide) (by first | rfl | simp [hq_cat, hq_catI, hq_catL]) (fun ls hl => ?_)
          refine lv_goto (tgt := 18) C.1.1 C.1.2.1 d_LW_law_515 (by decide) ?_
          refine W.widen (k := cN + 7) (n := sN + 72) (by omega) (by omega) ?_
          exact ih y1 y2 (y3 + 4) q101.2 hf (cN + 7) (sN + 72) (by omega) (by omega) _ _ I ls (lv_sub hl [1, 2, 3, 0] rfl)
        · rw [if_neg c105] at hf
          refine lv_iconst (v := 0) C.1.1 C.1.2.1 d_LW_law_231 (by decide) ?_
          cases hf
      rw [if_neg c92] at hf
      by_cases c106 : (x12 &&& (15 : Int32)) = 5
      · rw [if_pos c106] at hf
        refine lv_tableIn (tgt := 233) C.1.1 C.1.2.1 d_LW_law_32 (by rw [c106]; decide) (by rw [c106]; decide) (by rw [c106]; rfl) (by decide) ?_
        refine hq_aload_n C.1.1 C.1.2.1 d_LW_law_233 rfl (lv_at hl 1 rfl) ?_
        refine lv_aload_n C.1.1 C.1.2.1 d_LW_law_234 rfl (lv_at hl 0 rfl) ?_
        refine lv_iload_n C.1.1 C.1.2.1 d_LW_law_235 rfl (lv_at hl 3 rfl) ?_
        refine lv_iconst (v := 1) C.1.1 C.1.2.1 d_LW_law_236 (by decide) ?_
        refine lv_iadd C.1.1 C.1.2.1 d_LW_law_237 ?_
        replace hf := Option.bind_eq_some_iff.mp hf
        obtain ⟨x107, e108, hf⟩ := hf
        refine hq_sld C.1.1 C.1.2.1 hX hbl hbA I.2.2 e108 d_LW_law_238 ?_
        refine lv_aload_n C.1.1 C.1.2.1 d_LW_law_239 rfl (lv_at hl 0 rfl) ?_
        refine lv_iload_n C.1.1 C.1.2.1 d_LW_law_240 rfl (lv_at hl 3 rfl) ?_
        refine lv_iconst (v := 2) C.1.1 C.1.2.1 d_LW_law_241 (by decide) ?_
        refine lv_iadd C.1.1 C.1.2.1 d_LW_law_242 ?_
        replace hf := Option.bind_eq_some_iff.mp hf
        obtain ⟨x109, e110, hf⟩ := hf
        refine hq_sld C.1.1 C.1.2.1 hX hbl hbA I.2.2 e110 d_LW_law_243 ?_
        refine lv_aload_n C.1.1 C.1.2.1 d_LW_law_244 rfl (lv_at hl 0 rfl) ?_
        refine lv_iload_n C.1.1 C.1.2.1 d_LW_law_245 rfl (lv_at hl 3 rfl) ?_
        refine lv_iconst (v := 3) C.1.1 C.1.2.1 d_LW_law_246 (by decide) ?_
        refine lv_iadd C.1.1 C.1.2.1 d_LW_law_247 ?_
        replace hf := Option.bind_eq_some_iff.mp hf
        obtain ⟨x111, e112, hf⟩ := hf
        refine hq_sld C.1.1 C.1.2.1 hX hbl hbA I.2.2 e112 d_LW_law_248 ?_
        refine lv_if_eq (tgt := 256) C.1.1 C.1.2.1 d_LW_law_249 (by decide) (fun c113 => ?_) (fun c113 => ?_)
        · rw [if_pos c113] at hf
          refine lv_iconst (v := 0) C.1.1 C.1.2.1 d_LW_law_256 (by decide) ?_
          replace hf := Option.bind_eq_some_iff.mp hf
          obtain ⟨b116, e117, hf⟩ := hf
          obtain ⟨e117r, _, e117c⟩ := hp_o_inv e117
          replace hf := Option.bind_eq_some_iff.mp hf
          obtain ⟨q114, e115, hf⟩ := hf
          refine hq_callW gt_good C I hl.1 (k_LL_pack l G s.heap.size _ b116 x107 x109 (0 : Int32) q114 e115) M_LW_36 e117c e117r ⟨rfl, rfl⟩ ⟨Nat.le_of_ble_eq_true rfl, Nat.le_of_ble_eq_true rfl⟩ rfl (Nat.le_of_ble_eq_true rfl) d_LW_law_257 ⟨show _ ≤ 600000 by omega, show _ ≤ 7302250 by omega⟩ (fun H locs I => ?_)
          refine W.widen (k := cN + 0) (n := sN + 0) (by omega) (by omega) ?_
          refine hq_aload_n C.1.1 C.1.2.1 d_LW_law_260 rfl (lv_at hl 2 rfl) ?_
          refine lv_aload_n C.1.1 C.1.2.1 d_LW_law_261 rfl (lv_at hl 0 rfl) ?_
          refine lv_iload_n C.1.1 C.1.2.1 d_LW_law_262 rfl (lv_at hl 3 rfl) ?_
          refine lv_iconst (v := 1) C.1.1 C.1.2.1 d_LW_law_263 (by decide) ?_
          refine lv_iadd C.1.1 C.1.2.1 d_LW_law_264 ?_
          replace hf := Option.bind_eq_some_iff.mp hf
          obtain ⟨x118, e119, hf⟩ := hf
          refine hq_sld C.1.1 C.1.2.1 hX hbl hbA I.2.2 e119 d_LW_law_265 ?_
          refine lv_aload_n C.1.1 C.1.2.1 d_LW_law_266 rfl (lv_at hl 0 rfl) ?_
          refine lv_iload_n C.1.1 C.1.2.1 d_LW_law_267 rfl (lv_at hl 3 rfl) ?_
          refine lv_iconst (v := 2) C.1.1 C.1.2.1 d_LW_law_268 (by decide) ?_
          refine lv_iadd C.1.1 C.1.2.1 d_LW_law_269 ?_
          replace hf := Option.bind_eq_some_iff.mp hf
          obtain ⟨x120, e121, hf⟩ := hf
          refine hq_sld C.1.1 C.1.2.1 hX hbl hbA I.2.2 e121 d_LW_law_270 ?_
          refine lv_aload_n C.1.1 C.1.2.1 d_LW_law_271 rfl (lv_at hl 0 rfl) ?_
          refine lv_iload_n C.1.1 C.1.2.1 d_LW_law_272 rfl (lv_at hl 3 rfl) ?_
          refine lv_iconst (v := 3) C.1.1 C.1.2.1 d_LW_law_273 (by decide) ?_
          refine lv_iadd C.1.1 C.1.2.1 d_LW_law_274 ?_
          replace hf := Option.bind_eq_some_iff.mp hf
          obtain ⟨x122, e123, hf⟩ := hf
          refine hq_sld C.1.1 C.1.2.1 hX hbl hbA I.2.2 e123 d_LW_law_275 ?_
          refine lv_if_eq (tgt := 283) C.1.1 C.1.2.1 d_LW_law_276 (by decide) (fun c124 => ?_) (fun c124 => ?_)
          · rw [if_pos c124] at hf
            refine lv_iconst (v := 0) C.1.1 C.1.2.1 d_LW_law_283 (by decide) ?_
            replace hf := Option.bind_eq_some_iff.mp hf
            obtain ⟨b127, e128, hf⟩ := hf
            obtain ⟨e128r, _, e128c⟩ := hp_o_inv e128
            replace hf := Option.bind_eq_some_iff.mp hf
            obtain ⟨q125, e126, hf⟩ := hf
            refine hq_callW gt_good C I hl.1 (k_MD_pack l G s.heap.size _ b127 x118 x120 (0 : Int32) q125 e126) M_LW_40 e128c e128r ⟨rfl, rfl⟩ ⟨Nat.le_of_ble_eq_true rfl, Nat.le_of_ble_eq_true rfl⟩ rfl (Nat.le_of_ble_eq_true rfl) d_LW_law_284 ⟨show _ ≤ 600000 by omega, show _ ≤ 7302250 by omega⟩ (fun H locs I => ?_)
            refine W.widen (k := cN + 0) (n := sN + 0) (by omega) (by omega) ?_
            refine lv_icmp_eq (tgt := 512) C.1.1 C.1.2.1 d_LW_law_287 (by decide) (fun c129 => ?_) (fun c129 => ?_)
            · rw [if_pos c129] at hf
              refine lv_iinc (v := (y3 + 4)) (lv' := [(3, .int (y3 + 4)), (0, .ref b), (1, va_rf y1), (2, va_rf y2)]) C.1.1 C.1.2.1 d_LW_law_512 hl (k := 3) rfl rfl (by decide) (by first | rfl | simp [hq_cat, hq_catI, hq_catL]) (fun ls hl => ?_)
              refine lv_goto (tgt := 18) C.1.1 C.1.2.1 d_LW_law_515 (by decide) ?_
              refine W.widen (k := cN + 7) (n := sN + 72) (by omega) (by omega) ?_
              exact ih y1 y2 (y3 + 4) q125.2 hf (cN + 7) (sN + 72) (by omega) (by omega) _ _ I ls (lv_sub hl [1, 2, 3, 0] rfl)
            · rw [if_neg c129] at hf
              refine lv_iconst (v := 0) C.1.1 C.1.2.1 d_LW_law_290 (by decide) ?_
              cases hf
          · rw [if_neg c124] at hf
            refine lv_iconst (v := 1) C.1.1 C.1.2.1 d_LW_law_279 (by decide) ?_
            refine lv_goto (tgt := 284) C.1.1 C.1.2.1 d_LW_law_280 (by decide) ?_
            replace hf := Option.bind_eq_some_iff.mp hf
            obtain ⟨b132, e133, hf⟩ := hf
            obtain ⟨e133r, _, e133c⟩ := hp_o_inv e133
            replace hf := Option.bind_eq_some_iff.mp hf
            obtain ⟨q130, e131, hf⟩ := hf
            refine hq_callW gt_good C I hl.1 (k_MD_pack l G s.heap.size _ b132 x118 x120 (1 : Int32) q130 e131) M_LW_40 e133c e133r ⟨rfl, rfl⟩ ⟨Nat.le_of_ble_eq_true rfl, Nat.le_of_ble_eq_true rfl⟩ rfl (Nat.le_of_ble_eq_true rfl) d_LW_law_284 ⟨show _ ≤ 600000 by omega, show _ ≤ 7302250 by omega⟩ (fun H locs I => ?_)
            refine W.widen (k := cN + 0) (n := sN + 0) (by omega) (by omega) ?_
            refine lv_icmp_eq (tgt := 512) C.1.1 C.1.2.1 d_LW_law_287 (by decide) (fun c134 => ?_) (fun c134 => ?_)
            · rw [if_pos c134] at hf
              refine lv_iinc (v := (y3 + 4)) (lv' := [(3, .int (y3 + 4)), (0, .ref b), (1, va_rf y1), (2, va_rf y2)]) C.1.1 C.1.2.1 d_LW_law_512 hl (k := 3) rfl rfl (by decide) (by first | rfl | simp [hq_cat, hq_catI, hq_catL]) (fun ls hl => ?_)
              refine lv_goto (tgt := 18) C.1.1 C.1.2.1 d_LW_law_515 (by decide) ?_
              refine W.widen (k := cN + 7) (n := sN + 72) (by omega) (by omega) ?_
              exact ih y1 y2 (y3 + 4) q130.2 hf (cN + 7) (sN + 72) (by omega) (by omega) _ _ I ls (lv_sub hl [1, 2, 3, 0] rfl)
            · rw [if_neg c134] at hf
              refine lv_iconst (v := 0) C.1.1 C.1.2.1 d_LW_law_290 (by decide) ?_
              cases hf
        · rw [if_neg c113] at hf
          refine lv_iconst (v := 1) C.1.1 C.1.2.1 d_LW_law_252 (by decide) ?_
          refine lv_goto (tgt := 257) C.1.1 C.1.2.1 d_LW_law_253 (by decide) ?_
          replace hf := Option.bind_eq_some_iff.mp hf
          obtain ⟨b137, e138, hf⟩ := hf
          obtain ⟨e138r, _, e138c⟩ := hp_o_inv e138
          replace hf := Option.bind_eq_some_iff.mp hf
          obtain ⟨q135, e136, hf⟩ := hf
          refine hq_callW gt_good C I hl.1 (k_LL_pack l G s.heap.size _ b137 x107 x109 (1 : Int32) q135 e136) M_LW_36 e138c e138r ⟨rfl, rfl⟩ ⟨Nat.le_of_ble_eq_true rfl, Nat.le_of_ble_eq_true rfl⟩ rfl (Nat.le_of_ble_eq_true rfl) d_LW_law_257 ⟨show _ ≤ 600000 by omega, show _ ≤ 7302250 by omega⟩ (fun H locs I => ?_)
          refine W.widen (k := cN + 0) (n := sN + 0) (by omega) (by omega) ?_
          refine hq_aload_n C.1.1 C.1.2.1 d_LW_law_260 rfl (lv_at hl 2 rfl) ?_
          refine lv_aload_n C.1.1 C.1.2.1 d_LW_law_261 rfl (lv_at hl 0 rfl) ?_
          refine lv_iload_n C.1.1 C.1.2.1 d_LW_law_262 rfl (lv_at hl 3 rfl) ?_
          refine lv_iconst (v := 1) C.1.1 C.1.2.1 d_LW_law_263 (by decide) ?_
          refine lv_iadd C.1.1 C.1.2.1 d_LW_law_264 ?_
          replace hf := Option.bind_eq_some_iff.mp hf
          obtain ⟨x139, e140, hf⟩ := hf
          refine hq_sld C.1.1 C.1.2.1 hX hbl hbA I.2.2 e140 d_LW_law_265 ?_
          refine lv_aload_n C.1.1 C.1.2.1 d_LW_law_266 rfl (lv_at hl 0 rfl) ?_
          refine lv_iload_n C.1.1 C.1.2.1 d_LW_law_267 rfl (lv_at hl 3 rfl) ?_
          refine lv_iconst (v := 2) C.1.1 C.1.2.1 d_LW_law_268 (by decide) ?_
          refine lv_iadd C.1.1 C.1.2.1 d_LW_law_269 ?_
          replace hf := Option.bind_eq_some_iff.mp hf
          obtain ⟨x141, e142, hf⟩ := hf
          refine hq_sld C.1.1 C.1.2.1 hX hbl hbA I.2.2 e142 d_LW_law_270 ?_
          refine lv_aload_n C.1.1 C.1.2.1 d_LW_law_271 rfl (lv_at hl 0 rfl) ?_
          refine lv_iload_n C.1.1 C.1.2.1 d_LW_law_272 rfl (lv_at hl 3 rfl) ?_
          refine lv_iconst (v := 3) C.1.1 C.1.2.1 d_LW_law_273 (by decide) ?_
          refine lv_iadd C.1.1 C.1.2.1 d_LW_law_274 ?_
          replace hf := Option.bind_eq_some_iff.mp hf
          obtain ⟨x143, e144, hf⟩ := hf
          refine hq_sld C.1.1 C.1.2.1 hX hbl hbA I.2.2 e144 d_LW_law_275 ?_
          refine lv_if_eq (tgt := 283) C.1.1 C.1.2.1 d_LW_law_276 (by decide) (fun c145 => ?_) (fun c145 => ?_)
          · rw [if_pos c145] at hf
            refine lv_iconst (v := 0) C.1.1 C.1.2.1 d_LW_law_283 (by decide) ?_
            replace hf := Option.bind_eq_some_iff.mp hf
            obtain ⟨b148, e149, hf⟩ := hf
            obtain ⟨e149r, _, e149c⟩ := hp_o_inv e149
            replace hf := Option.bind_eq_some_iff.mp hf
            obtain ⟨q146, e147, hf⟩ := hf
            refine hq_callW gt_good C I hl.1 (k_MD_pack l G s.heap.size _ b148 x139 x141 (0 : Int32) q146 e147) M_LW_40 e149c e149r ⟨rfl, rfl⟩ ⟨Nat.le_of_ble_eq_true rfl, Nat.le_of_ble_eq_true rfl⟩ rfl (Nat.le_of_ble_eq_true rfl) d_LW_law_284 ⟨show _ ≤ 600000 by omega, show _ ≤ 7302250 by omega⟩ (fun H locs I => ?_)
            refine W.widen (k := cN + 0) (n := sN + 0) (by omega) (by omega) ?_
            refine lv_icmp_eq (tgt := 512) C.1.1 C.1.2.1 d_LW_law_287 (by decide) (fun c150 => ?_) (fun c150 => ?_)
            · rw [if_pos c150] at hf
              refine lv_iinc (v := (y3 + 4)) (lv' := [(3, .int (y3 + 4)), (0, .ref b), (1, va_rf y1), (2, va_rf y2)]) C.1.1 C.1.2.1 d_LW_law_512 hl (k := 3) rfl rfl (by decide) (by first | rfl | simp [hq_cat, hq_catI, hq_catL]) (fun ls hl => ?_)
              refine lv_goto (tgt := 18) C.1.1 C.1.2.1 d_LW_law_515 (by decide) ?_
              refine W.widen (k := cN + 7) (n := sN + 72) (by omega) (by omega) ?_
              exact ih y1 y2 (y3 + 4) q146.2 hf (cN + 7) (sN + 72) (by omega) (by omega) _ _ I ls (lv_sub hl [1, 2, 3, 0] rfl)
            · rw [if_neg c150] at hf
              refine lv_iconst (v := 0) C.1.1 C.1.2.1 d_LW_law_290 (by decide) ?_
              cases hf
          · rw [if_neg c145] at hf
            refine lv_iconst (v := 1) C.1.1 C.1.2.1 d_LW_law_279 (by decide) ?_
            refine lv_goto (tgt := 284) C.1.1 C.1.2.1 d_LW_law_280 (by decide) ?_
            replace hf := Option.bind_eq_some_iff.mp hf
            obtain ⟨b153, e154, hf⟩ := hf
            obtain ⟨e154r, _, e154c⟩ := hp_o_inv e154
            replace hf := Option.bind_eq_some_iff.mp hf
            obtain ⟨q151, e152, hf⟩ := hf
            refine hq_callW gt_good C I hl.1 (k_MD_pack l G s.heap.size _ b153 x139 x141 (1 : Int32) q151 e152) M_LW_40 e154c e154r ⟨rfl, rfl⟩ ⟨Nat.le_of_ble_eq_true rfl, Nat.le_of_ble_eq_true rfl⟩ rfl (Nat.le_of_ble_eq_true rfl) d_LW_law_284 ⟨show _ ≤ 600000 by omega, show _ ≤ 7302250 by omega⟩ (fun H locs I => ?_)
            refine W.widen (k := cN + 0) (n := sN + 0) (by omega) (by omega) ?_
            refine lv_icmp_eq (tgt := 512) C.1.1 C.1.2.1 d_LW_law_287 (by decide) (fun c155 => ?_) (fun c155 => ?_)
            · rw [if_pos c155] at hf
              refine lv_iinc (v := (y3 + 4)) (lv' := [(3, .int (y3 + 4)), (0, .ref b), (1, va_rf y1), (2, va_rf y2)]) C.1.1 C.1.2.1 d_LW_law_512 hl (k := 3) rfl rfl (by decide) (by first | rfl | simp [hq_cat, hq_catI, hq_catL]) (fun ls hl => ?_)
              refine lv_goto (tgt := 18) C.1.1 C.1.2.1 d_LW_law_515 (by decide) ?_
              refine W.widen (k := cN + 7) (n := sN + 72) (by omega) (by omega) ?_
              exact ih y1 y2 (y3 + 4) q151.2 hf (cN + 7) (sN + 72) (by omega) (by omega) _ _ I ls (lv_sub hl [1, 2, 3, 0] rfl)
            · rw [if_neg c155] at hf
              refine lv_iconst (v := 0) C.1.1 C.1.2.1 d_LW_law_290 (by decide) ?_
              cases hf
      rw [if_neg c106] at hf
      by_cases c156 : (x12 &&& (15 : Int32)) = 6
      · rw [if_pos c156] at hf
        refine lv_tableIn (tgt := 292) C.1.1 C.1.2.1 d_LW_law_32 (by rw [c156]; decide) (by rw [c156]; decide) (by rw [c156]; rfl) (by decide) ?_
        refine hq_aload_n C.1.1 C.1.2.1 d_LW_law_292 rfl (lv_at hl 1 rfl) ?_
        refine lv_aload_n C.1.1 C.1.2.1 d_LW_law_293 rfl (lv_at hl 0 rfl) ?_
        refine lv_iload_n C.1.1 C.1.2.1 d_LW_law_294 rfl (lv_at hl 3 rfl) ?_
        refine lv_iconst (v := 1) C.1.1 C.1.2.1 d_LW_law_295 (by decide) ?_
        refine lv_iadd C.1.1 C.1.2.1 d_LW_law_296 ?_
        replace hf := Option.bind_eq_some_iff.mp hf
        obtain ⟨x157, e158, hf⟩ := hf
        refine hq_sld C.1.1 C.1.2.1 hX hbl hbA I.2.2 e158 d_LW_law_297 ?_
        replace hf := Option.bind_eq_some_iff.mp hf
        obtain ⟨b161, e162, hf⟩ := hf
        obtain ⟨e162r, _, e162c⟩ := hp_o_inv e162
        replace hf := Option.bind_eq_some_iff.mp hf
        obtain ⟨q159, e160, hf⟩ := hf
        refine hq_callW gt_good C I hl.1 (k_LL_retire l G s.heap.size _ b161 x157 q159 e160) M_LW_41 e162c e162r ⟨rfl, rfl⟩ ⟨Nat.le_of_ble_eq_true rfl, Nat.le_of_ble_eq_true rfl⟩ rfl (Nat.le_of_ble_eq_true rfl) d_LW_law_298 ⟨show _ ≤ 600000 by omega, show _ ≤ 7302250 by omega⟩ (fun H locs I => ?_)
        refine W.widen (k := cN + 0) (n := sN + 0) (by omega) (by omega) ?_
        refine hq_aload_n C.1.1 C.1.2.1 d_LW_law_301 rfl (lv_at hl 2 rfl) ?_
        refine lv_aload_n C.1.1 C.1.2.1 d_LW_law_302 rfl (lv_at hl 0 rfl) ?_
        refine lv_iload_n C.1.1 C.1.2.1 d_LW_law_303 rfl (lv_at hl 3 rfl) ?_
        refine lv_iconst (v := 1) C.1.1 C.1.2.1 d_LW_law_304 (by decide) ?_
        refine lv_iadd C.1.1 C.1.2.1 d_LW_law_305 ?_
        replace hf := Option.bind_eq_some_iff.mp hf
        obtain ⟨x163, e164, hf⟩ := hf
        refine hq_sld C.1.1 C.1.2.1 hX hbl hbA I.2.2 e164 d_LW_law_306 ?_
        replace hf := Option.bind_eq_some_iff.mp hf
        obtain ⟨b167, e168, hf⟩ := hf
        obtain ⟨e168r, _, e168c⟩ := hp_o_inv e168
        replace hf := Option.bind_eq_some_iff.mp hf
        obtain ⟨q165, e166, hf⟩ := hf
        refine hq_callW gt_good C I hl.1 (k_MD_retire l G s.heap.size _ b167 x163 q165 e166) M_LW_44 e168c e168r ⟨rfl, rfl⟩ ⟨Nat.le_of_ble_eq_true rfl, Nat.le_of_ble_eq_true rfl⟩ rfl (Nat.le_of_ble_eq_true rfl) d_LW_law_307 ⟨show _ ≤ 600000 by omega, show _ ≤ 7302250 by omega⟩ (fun H locs I => ?_)
        refine W.widen (k := cN + 0) (n := sN + 0) (by omega) (by omega) ?_
        refine lv_icmp_eq (tgt := 512) C.1.1 C.1.2.1 d_LW_law_310 (by decide) (fun c169 => ?_) (fun c169 => ?_)
        · rw [if_pos c169] at hf
          refine lv_iinc (v := (y3 + 4)) (lv' := [(3, .int (y3 + 4)), (0, .ref b), (1, va_rf y1), (2, va_rf y2)]) C.1.1 C.1.2.1 d_LW_law_512 hl (k := 3) rfl rfl (by decide) (by first | rfl | simp [hq_cat, hq_catI, hq_catL]) (fun ls hl => ?_)
          refine lv_goto (tgt := 18) C.1.1 C.1.2.1 d_LW_law_515 (by decide) ?_
          refine W.widen (k := cN + 7) (n := sN + 72) (by omega) (by omega) ?_
          exact ih y1 y2 (y3 + 4) q165.2 hf (cN + 7) (sN + 72) (by omega) (by omega) _ _ I ls (lv_sub hl [1, 2, 3, 0] rfl)
        · rw [if_neg c169] at hf
          refine lv_iconst (v := 0) C.1.1 C.1.2.1 d_LW_law_313 (by decide) ?_
          cases hf
      rw [if_neg c156] at hf
      by_cases c170 : (x12 &&& (15 : Int32)) = 7
      · rw [if_pos c170] at hf
        refine lv_tableIn (tgt := 315) C.1.1 C.1.2.1 d_LW_law_32 (by rw [c170]; decide) (by rw [c170]; decide) (by rw [c170]; rfl) (by decide) ?_
        refine hq_aload_n C.1.1 C.1.2.1 d_LW_law_315 rfl (lv_at hl 1 rfl) ?_
        replace hf := Option.bind_eq_some_iff.mp hf
        obtain ⟨b173, e174, hf⟩ := hf
        obtain ⟨e174r, _, e174c⟩ := hp_o_inv e174
        replace hf := Option.bind_eq_some_iff.mp hf
        obtain ⟨q171, e172, hf⟩ := hf
        refine hq_callW gt_good C I hl.1 (k_LL_compare l G s.heap.size _ b173 q171 e172) M_LW_45 e174c e174r ⟨rfl, rfl⟩ ⟨Nat.le_of_ble_eq_true rfl, Nat.le_of_ble_eq_true rfl⟩ rfl (Nat.le_of_ble_eq_true rfl) d_LW_law_316 ⟨show _ ≤ 600000 by omega, show _ ≤ 7302250 by omega⟩ (fun H locs I => ?_)
        refine W.widen (k := cN + 4) (n := sN + 26) (by omega) (by omega) ?_
        refine hq_aload_n C.1.1 C.1.2.1 d_LW_law_319 rfl (lv_at hl 2 rfl) ?_
        replace hf := Option.bind_eq_some_iff.mp hf
        obtain ⟨b177, e178, hf⟩ := hf
        obtain ⟨e178r, _, e178c⟩ := hp_o_inv e178
        replace hf := Option.bind_eq_some_iff.mp hf
        obtain ⟨q175, e176, hf⟩ := hf
        refine hq_callW gt_good C I hl.1 (k_MD_compare l G s.heap.size _ b177 q175 e176) M_LW_48 e178c e178r ⟨rfl, rfl⟩ ⟨Nat.le_of_ble_eq_true rfl, Nat.le_of_ble_eq_true rfl⟩ rfl (Nat.le_of_ble_eq_true rfl) d_LW_law_320 ⟨show _ ≤ 600000 by omega, show _ ≤ 7302250 by omega⟩ (fun H locs I => ?_)
        refine W.widen (k := cN + 4) (n := sN + 26) (by omega) (by omega) ?_
        refine lv_icmp_eq (tgt := 512) C.1.1 C.1.2.1 d_LW_law_323 (by decide) (fun c179 => ?_) (fun c179 => ?_)
        · rw [if_pos c179] at hf
          refine lv_iinc (v := (y3 + 4)) (lv' := [(3, .int (y3 + 4)), (0, .ref b), (1, va_rf y1), (2, va_rf y2)]) C.1.1 C.1.2.1 d_LW_law_512 hl (k := 3) rfl rfl (by decide) (by first | rfl | simp [hq_cat, hq_catI, hq_catL]) (fun ls hl => ?_)
          refine lv_goto (tgt := 18) C.1.1 C.1.2.1 d_LW_law_515 (by decide) ?_
          refine W.widen (k := cN + 7) (n := sN + 72) (by omega) (by omega) ?_
          exact ih y1 y2 (y3 + 4) q175.2 hf (cN + 7) (sN + 72) (by omega) (by omega) _ _ I ls (lv_sub hl [1, 2, 3, 0] rfl)
        · rw [if_neg c179] at hf
          refine lv_iconst (v := 0) C.1.1 C.1.2.1 d_LW_law_326 (by decide) ?_
          cases hf
      rw [if_neg c170] at hf
      by_cases c180 : (x12 &&& (15 : Int32)) = 8
      · rw [if_pos c180] at hf
        refine lv_tableIn (tgt := 328) C.1.1 C.1.2.1 d_LW_law_32 (by rw [c180]; decide) (by rw [c180]; decide) (by rw [c180]; rfl) (by decide) ?_
        refine hq_aload_n C.1.1 C.1.2.1 d_LW_law_328 rfl (lv_at hl 1 rfl) ?_
        replace hf := Option.bind_eq_some_iff.mp hf
        obtain ⟨b183, e184, hf⟩ := hf
        obtain ⟨e184r, _, e184c⟩ := hp_o_inv e184
        replace hf := Option.bind_eq_some_iff.mp hf
        obtain ⟨q181, e182, hf⟩ := hf
        refine hq_callW gt_good C I hl.1 (k_LL_resolve l G s.heap.size _ b183 q181 e182) M_LW_49 e184c e184r ⟨rfl, rfl⟩ ⟨Nat.le_of_ble_eq_true rfl, Nat.le_of_ble_eq_true rfl⟩ rfl (Nat.le_of_ble_eq_true rfl) d_LW_law_329 ⟨show _ ≤ 600000 by omega, show _ ≤ 7302250 by omega⟩ (fun H locs I => ?_)
        refine W.widen (k := cN + 5) (n := sN + 31) (by omega) (by omega) ?_
        refine hq_aload_n C.1.1 C.1.2.1 d_LW_law_332 rfl (lv_at hl 2 rfl) ?_
        replace hf := Option.bind_eq_some_iff.mp hf
        obtain ⟨b187, e188, hf⟩ := hf
        obtain ⟨e188r, _, e188c⟩ := hp_o_inv e188
        replace hf := Option.bind_eq_some_iff.mp hf
        obtain ⟨q185, e186, hf⟩ := hf
        refine hq_callW gt_good C I hl.1 (k_MD_resolve l G s.heap.size _ b187 q185 e186) M_LW_52 e188c e188r ⟨rfl, rfl⟩ ⟨Nat.le_of_ble_eq_true rfl, Nat.le_of_ble_eq_true rfl⟩ rfl (Nat.le_of_ble_eq_true rfl) d_LW_law_333 ⟨show _ ≤ 600000 by omega, show _ ≤ 7302250 by omega⟩ (fun H locs I => ?_)
        refine W.widen (k := cN + 5) (n := sN + 31) (by omega) (by omega) ?_
        refine lv_icmp_eq (tgt := 512) C.1.1 C.1.2.1 d_LW_law_336 (by decide) (fun c189 => ?_) (fun c189 => ?_)
        · rw [if_pos c189] at hf
          refine lv_iinc (v := (y3 + 4)) (lv' := [(3, .int (y3 + 4)), (0, .ref b), (1, va_rf y1), (2, va_rf y2)]) C.1.1 C.1.2.1 d_LW_law_512 hl (k := 3) rfl rfl (by decide) (by first | rfl | simp [hq_cat, hq_catI, hq_catL]) (fun ls hl => ?_)
          refine lv_goto (tgt := 18) C.1.1 C.1.2.1 d_LW_law_515 (by decide) ?_
          refine W.widen (k := cN + 7) (n := sN + 72) (by omega) (by omega) ?_
          exact ih y1 y2 (y3 + 4) q185.2 hf (cN + 7) (sN + 72) (by omega) (by omega) _ _ I ls (lv_sub hl [1, 2, 3, 0] rfl)
        · rw [if_neg c189] at hf
          refine lv_iconst (v := 0) C.1.1 C.1.2.1 d_LW_law_339 (by decide) ?_
          cases hf
      rw [if_neg c180] at hf
      by_cases c190 : (x12 &&& (15 : Int32)) = 9
      · rw [if_pos c190] at hf
        refine lv_tableIn (tgt := 341) C.1.1 C.1.2.1 d_LW_law_32 (by rw [c190]; decide) (by rw [c190]; decide) (by rw [c190]; rfl) (by decide) ?_
        refine hq_aload_n C.1.1 C.1.2.1 d_LW_law_341 rfl (lv_at hl 1 rfl) ?_
        replace hf := Option.bind_eq_some_iff.mp hf
        obtain ⟨b193, e194, hf⟩ := hf
        obtain ⟨e194r, _, e194c⟩ := hp_o_inv e194
        replace hf := Option.bind_eq_some_iff.mp hf
        obtain ⟨q191, e192, hf⟩ := hf
        refine hq_callW gt_good C I hl.1 (k_LL_culprit l G s.heap.size _ b193 q191 e192) M_LW_53 e194c e194r ⟨rfl, rfl⟩ ⟨Nat.le_of_ble_eq_true rfl, Nat.le_of_ble_eq_true rfl⟩ rfl (Nat.le_of_ble_eq_true rfl) d_LW_law_342 ⟨show _ ≤ 600000 by omega, show _ ≤ 7302250 by omega⟩ (fun H locs I => ?_)
        refine W.widen (k := cN + 0) (n := sN + 0) (by omega) (by omega) ?_
        refine hq_aload_n C.1.1 C.1.2.1 d_LW_law_345 rfl (lv_at hl 2 rfl) ?_
        replace hf := Option.bind_eq_some_iff.mp hf
        obtain ⟨b197, e198, hf⟩ := hf
        obtain ⟨e198r, _, e198c⟩ := hp_o_inv e198
        replace hf := Option.bind_eq_some_iff.mp hf
        obtain ⟨q195, e196, hf⟩ := hf
        refine hq_callW gt_good C I hl.1 (k_MD_culprit l G s.heap.size _ b197 q195 e196) M_LW_56 e198c e198r ⟨rfl, rfl⟩ ⟨Nat.le_of_ble_eq_true rfl, Nat.le_of_ble_eq_true rfl⟩ rfl (Nat.le_of_ble_eq_true rfl) d_LW_law_346 ⟨show _ ≤ 600000 by omega, show _ ≤ 7302250 by omega⟩ (fun H locs I => ?_)
        refine W.widen (k := cN + 0) (n := sN + 0) (by omega) (by omega) ?_
        refine lv_icmp_eq (tgt := 512) C.1.1 C.1.2.1 d_LW_law_349 (by decide) (fun c199 => ?_) (fun c199 => ?_)
        · rw [if_pos c199] at hf
          refine lv_iinc (v := (y3 + 4)) (lv' := [(3, .int (y3 + 4)), (0, .ref b), (1, va_rf y1), (2, va_rf y2)]) C.1.1 C.1.2.1 d_LW_law_512 hl (k := 3) rfl rfl (by decide) (by first | rfl | simp [hq_cat, hq_catI, hq_catL]) (fun ls hl => ?_)
          refine lv_goto (tgt := 18) C.1.1 C.1.2.1 d_LW_law_515 (by decide) ?_
          refine W.widen (k := cN + 7) (n := sN + 72) (by omega) (by omega) ?_
          exact ih y1 y2 (y3 + 4) q195.2 hf (cN + 7) (sN + 72) (by omega) (by omega) _ _ I ls (lv_sub hl [1, 2, 3, 0] rfl)
        · rw [if_neg c199] at hf
          refine lv_iconst (v := 0) C.1.1 C.1.2.1 d_LW_law_352 (by decide) ?_
          cases hf
      rw [if_neg c190] at hf
      by_cases c200 : (x12 &&& (15 : Int32)) = 10
      · rw [if_pos c200] at hf
        refine lv_tableIn (tgt := 354) C.1.1 C.1.2.1 d_LW_law_32 (by rw [c200]; decide) (by rw [c200]; decide) (by rw [c200]; rfl) (by decide) ?_
        refine hq_aload_n C.1.1 C.1.2.1 d_LW_law_354 rfl (lv_at hl 1 rfl) ?_
        refine lv_aload_n C.1.1 C.1.2.1 d_LW_law_355 rfl (lv_at hl 0 rfl) ?_
        refine lv_iload_n C.1.1 C.1.2.1 d_LW_law_356 rfl (lv_at hl 3 rfl) ?_
        refine lv_iconst (v := 1) C.1.1 C.1.2.1 d_LW_law_357 (by decide) ?_
        refine lv_iadd C.1.1 C.1.2.1 d_LW_law_358 ?_
        replace hf := Option.bind_eq_some_iff.mp hf
        obtain ⟨x201, e202, hf⟩ := hf
        refine hq_sld C.1.1 C.1.2.1 hX hbl hbA I.2.2 e202 d_LW_law_359 ?_
        replace hf := Option.bind_eq_some_iff.mp hf
        obtain ⟨b205, e206, hf⟩ := hf
        obtain ⟨e206r, _, e206c⟩ := hp_o_inv e206
        replace hf := Option.bind_eq_some_iff.mp hf
        obtain ⟨q203, e204, hf⟩ := hf
        refine hq_callW gt_good C I hl.1 (k_LL_entry l G s.heap.size _ b205 x201 q203 e204) M_LW_57 e206c e206r ⟨rfl, rfl⟩ ⟨Nat.le_of_ble_eq_true rfl, Nat.le_of_ble_eq_true rfl⟩ rfl (Nat.le_of_ble_eq_true rfl) d_LW_law_360 ⟨show _ ≤ 600000 by omega, show _ ≤ 7302250 by omega⟩ (fun H locs I => ?_)
        refine W.widen (k := cN + 0) (n := sN + 0) (by omega) (by omega) ?_
        refine hq_aload_n C.1.1 C.1.2.1 d_LW_law_363 rfl (lv_at hl 2 rfl) ?_
        refine lv_aload_n C.1.1 C.1.2.1 d_LW_law_364 rfl (lv_at hl 0 rfl) ?_
        refine lv_iload_n C.1.1 C.1.2.1 d_LW_law_365 rfl (lv_at hl 3 rfl) ?_
        refine lv_iconst (v := 1) C.1.1 C.1.2.1 d_LW_law_366 (by decide) ?_
        refine lv_iadd C.1.1 C.1.2.1 d_LW_law_367 ?_
        replace hf := Option.bind_eq_some_iff.mp hf
        obtain ⟨x207, e208, hf⟩ := hf
        refine hq_sld C.1.1 C.1.2.1 hX hbl hbA I.2.2 e208 d_LW_law_368 ?_
        replace hf := Option.bind_eq_some_iff.mp hf
        obtain ⟨b211, e212, hf⟩ := hf
        obtain ⟨e212r, _, e212c⟩ := hp_o_inv e212
        replace hf := Option.bind_eq_some_iff.mp hf
        obtain ⟨q209, e210, hf⟩ := hf
        refine hq_callW gt_good C I hl.1 (k_MD_entry l G s.heap.size _ b211 x207 q209 e210) M_LW_60 e212c e212r ⟨rfl, rfl⟩ ⟨Nat.le_of_ble_eq_true rfl, Nat.le_of_ble_eq_true rfl⟩ rfl (Nat.le_of_ble_eq_true rfl) d_LW_law_369 ⟨show _ ≤ 600000 by omega, show _ ≤ 7302250 by omega⟩ (fun H locs I => ?_)
        refine W.widen (k := cN + 0) (n := sN + 0) (by omega) (by omega) ?_
        refine lv_icmp_eq (tgt := 512) C.1.1 C.1.2.1 d_LW_law_372 (by decide) (fun c213 => ?_) (fun c213 => ?_)
        · rw [if_pos c213] at hf
          refine lv_iinc (v := (y3 + 4)) (lv' := [(3, .int (y3 + 4)), (0, .ref b), (1, va_rf y1), (2, va_rf y2)]) C.1.1 C.1.2.1 d_LW_law_512 hl (k := 3) rfl rfl (by decide) (by first | rfl | simp [hq_cat, hq_catI, hq_catL]) (fun ls hl => ?_)
          refine lv_goto (tgt := 18) C.1.1 C.1.2.1 d_LW_law_515 (by decide) ?_
          refine W.widen (k := cN + 7) (n := sN + 72) (by omega) (by omega) ?_
          exact ih y1 y2 (y3 + 4) q209.2 hf (cN + 7) (sN + 72) (by omega) (by omega) _ _ I ls (lv_sub hl [1, 2, 3, 0] rfl)
        · rw [if_neg c213] at hf
          refine lv_iconst (v := 0) C.1.1 C.1.2.1 d_LW_law_375 (by decide) ?_
          cases hf
      rw [if_neg c200] at hf
      by_cases c214 : (x12 &&& (15 : Int32)) = 11
      · rw [if_pos c214] at hf
        refine lv_tableIn (tgt := 377) C.1.1 C.1.2.1 d_LW_law_32 (by rw [c214]; decide) (by rw [c214]; decide) (by rw [c214]; rfl) (by decide) ?_
        refine hq_aload_n C.1.1 C.1.2.1 d_LW_law_377 rfl (lv_at hl 1 rfl) ?_
        refine lv_aload_n C.1.1 C.1.2.1 d_LW_law_378 rfl (lv_at hl 0 rfl) ?_
        refine lv_iload_n C.1.1 C.1.2.1 d_LW_law_379 rfl (lv_at hl 3 rfl) ?_
        refine lv_iconst (v := 1) C.1.1 C.1.2.1 d_LW_law_380 (by decide) ?_
        refine lv_iadd C.1.1 C.1.2.1 d_LW_law_381 ?_
        replace hf := Option.bind_eq_some_iff.mp hf
        obtain ⟨x215, e216, hf⟩ := hf
        refine hq_sld C.1.1 C.1.2.1 hX hbl hbA I.2.2 e216 d_LW_law_382 ?_
        replace hf := Option.bind_eq_some_iff.mp hf
        obtain ⟨b219, e220, hf⟩ := hf
        obtain ⟨e220r, _, e220c⟩ := hp_o_inv e220
        replace hf := Option.bind_eq_some_iff.mp hf
        obtain ⟨q217, e218, hf⟩ := hf
        refine hq_callW gt_good C I hl.1 (k_LL_depth l G s.heap.size _ b219 x215 q217 e218) M_LW_61 e220c e220r ⟨rfl, rfl⟩ ⟨Nat.le_of_ble_eq_true rfl, Nat.le_of_ble_eq_true rfl⟩ rfl (Nat.le_of_ble_eq_true rfl) d_LW_law_383 ⟨show _ ≤ 600000 by omega, show _ ≤ 7302250 by omega⟩ (fun H locs I => ?_)
        refine W.widen (k := cN + 0) (n := sN + 0) (by omega) (by omega) ?_
        refine hq_aload_n C.1.1 C.1.2.1 d_LW_law_386 rfl (lv_at hl 2 rfl) ?_
        refine lv_aload_n C.1.1 C.1.2.1 d_LW_law_387 rfl (lv_at hl 0 rfl) ?_
        refine lv_iload_n C.1.1 C.1.2.1 d_LW_law_388 rfl (lv_at hl 3 rfl) ?_
        refine lv_iconst (v := 1) C.1.1 C.1.2.1 d_LW_law_389 (by decide) ?_
        refine lv_iadd C.1.1 C.1.2.1 d_LW_law_390 ?_
        replace hf := Option.bind_eq_some_iff.mp hf
        obtain ⟨x221, e222, hf⟩ := hf
        refine hq_sld C.1.1 C.1.2.1 hX hbl hbA I.2.2 e222 d_LW_law_391 ?_
        replace hf := Option.bind_eq_some_iff.mp hf
        obtain ⟨b225, e226, hf⟩ := hf
        obtain ⟨e226r, _, e226c⟩ := hp_o_inv e226
        replace hf := Option.bind_eq_some_iff.mp hf
        obtain ⟨q223, e224, hf⟩ := hf
        refine hq_callW gt_good C I hl.1 (k_MD_depth l G s.heap.size _ b225 x221 q223 e224) M_LW_64 e226c e226r ⟨rfl, rfl⟩ ⟨Nat.le_of_ble_eq_true rfl, Nat.le_of_ble_eq_true rfl⟩ rfl (Nat.le_of_ble_eq_true rfl) d_LW_law_392 ⟨show _ ≤ 600000 by omega, show _ ≤ 7302250 by omega⟩ (fun H locs I => ?_)
        refine W.widen (k := cN + 0) (n := sN + 0) (by omega) (by omega) ?_
        refine lv_icmp_eq (tgt := 512) C.1.1 C.1.2.1 d_LW_law_395 (by decide) (fun c227 => ?_) (fun c227 => ?_)
        · rw [if_pos c227] at hf
          refine lv_iinc (v := (y3 + 4)) (lv' := [(3, .int (y3 + 4)), (0, .ref b), (1, va_rf y1), (2, va_rf y2)]) C.1.1 C.1.2.1 d_LW_law_512 hl (k := 3) rfl rfl (by decide) (by first | rfl | simp [hq_cat, hq_catI, hq_catL]) (fun ls hl => ?_)
          refine lv_goto (tgt := 18) C.1.1 C.1.2.1 d_LW_law_515 (by decide) ?_
          refine W.widen (k := cN + 7) (n := sN + 72) (by omega) (by omega) ?_
          exact ih y1 y2 (y3 + 4) q223.2 hf (cN + 7) (sN + 72) (by omega) (by omega) _ _ I ls (lv_sub hl [1, 2, 3, 0] rfl)
        · rw [if_neg c227] at hf
          refine lv_iconst (v := 0) C.1.1 C.1.2.1 d_LW_law_398 (by decide) ?_
          cases hf
      rw [if_neg c214] at hf
      by_cases c228 : (x12 &&& (15 : Int32)) = 12
      · rw [if_pos c228] at hf
        refine lv_tableIn (tgt := 400) C.1.1 C.1.2.1 d_LW_law_32 (by rw [c228]; decide) (by rw [c228]; decide) (by rw [c228]; rfl) (by decide) ?_
        refine hq_aload_n C.1.1 C.1.2.1 d_LW_law_400 rfl (lv_at hl 1 rfl) ?_
        refine lv_aload_n C.1.1 C.1.2.1 d_LW_law_401 rfl (lv_at hl 0 rfl) ?_
        refine lv_iload_n C.1.1 C.1.2.1 d_LW_law_402 rfl (lv_at hl 3 rfl) ?_
        refine lv_iconst (v := 1) C.1.1 C.1.2.1 d_LW_law_403 (by decide) ?_
        refine lv_iadd C.1.1 C.1.2.1 d_LW_law_404 ?_
        replace hf := Option.bind_eq_some_iff.mp hf
        obtain ⟨x229, e230, hf⟩ := hf
        refine hq_sld C.1.1 C.1.2.1 hX hbl hbA I.2.2 e230 d_LW_law_405 ?_
        replace hf := Option.bind_eq_some_iff.mp hf
        obtain ⟨b233, e234, hf⟩ := hf
        obtain ⟨e234r, _, e234c⟩ := hp_o_inv e234
        replace hf := Option.bind_eq_some_iff.mp hf
        obtain ⟨q231, e232, hf⟩ := hf
        refine hq_callW gt_good C I hl.1 (k_LL_parent l G s.heap.size _ b233 x229 q231 e232) M_LW_65 e234c e234r ⟨rfl, rfl⟩ ⟨Nat.le_of_ble_eq_true rfl, Nat.le_of_ble_eq_true rfl⟩ rfl (Nat.le_of_ble_eq_true rfl) d_LW_law_406 ⟨show _ ≤ 600000 by omega, show _ ≤ 7302250 by omega⟩ (fun H locs I => ?_)
        refine W.widen (k := cN + 0) (n := sN + 0) (by omega) (by omega) ?_
        refine hq_aload_n C.1.1 C.1.2.1 d_LW_law_409 rfl (lv_at hl 2 rfl) ?_
        refine lv_aload_n C.1.1 C.1.2.1 d_LW_law_410 rfl (lv_at hl 0 rfl) ?_
        refine lv_iload_n C.1.1 C.1.2.1 d_LW_law_411 rfl (lv_at hl 3 rfl) ?_
        refine lv_iconst (v := 1) C.1.1 C.1.2.1 d_LW_law_412 (by decide) ?_
        refine lv_iadd C.1.1 C.1.2.1 d_LW_law_413 ?_
        replace hf := Option.bind_eq_some_iff.mp hf
        obtain ⟨x235, e236, hf⟩ := hf
        refine hq_sld C.1.1 C.1.2.1 hX hbl hbA I.2.2 e236 d_LW_law_414 ?_
        replace hf := Option.bind_eq_some_iff.mp hf
        obtain ⟨b239, e240, hf⟩ := hf
        obtain ⟨e240r, _, e240c⟩ := hp_o_inv e240
        replace hf := Option.bind_eq_some_iff.mp hf
        obtain ⟨q237, e238, hf⟩ := hf
        refine hq_callW gt_good C I hl.1 (k_MD_parent l G s.heap.size _ b239 x235 q237 e238) M_LW_68 e240c e240r ⟨rfl, rfl⟩ ⟨Nat.le_of_ble_eq_true rfl, Nat.le_of_ble_eq_true rfl⟩ rfl (Nat.le_of_ble_eq_true rfl) d_LW_law_415 ⟨show _ ≤ 600000 by omega, show _ ≤ 7302250 by omega⟩ (fun H locs I => ?_)
        refine W.widen (k := cN + 0) (n := sN + 0) (by omega) (by omega) ?_
        refine lv_icmp_eq (tgt := 512) C.1.1 C.1.2.1 d_LW_law_418 (by decide) (fun c241 => ?_) (fun c241 => ?_)
        · rw [if_pos c241] at hf
          refine lv_iinc (v := (y3 + 4)) (lv' := [(3, .int (y3 + 4)), (0, .ref b), (1, va_rf y1), (2, va_rf y2)]) C.1.1 C.1.2.1 d_LW_law_512 hl (k := 3) rfl rfl (by decide) (by first | rfl | simp [hq_cat, hq_catI, hq_catL]) (fun ls hl => ?_)
          refine lv_goto (tgt := 18) C.1.1 C.1.2.1 d_LW_law_515 (by decide) ?_
          refine W.widen (k := cN + 7) (n := sN + 72) (by omega) (by omega) ?_
          exact ih y1 y2 (y3 + 4) q237.2 hf (cN + 7) (sN + 72) (by omega) (by omega) _ _ I ls (lv_sub hl [1, 2, 3, 0] rfl)
        · rw [if_neg c241] at hf
          refine lv_iconst (v := 0) C.1.1 C.1.2.1 d_LW_law_421 (by decide) ?_
          cases hf
      rw [if_neg c228] at hf
      by_cases c242 : (x12 &&& (15 : Int32)) = 13
      · rw [if_pos c242] at hf
        refine lv_tableIn (tgt := 423) C.1.1 C.1.2.1 d_LW_law_32 (by rw [c242]; decide) (by rw [c242]; decide) (by rw [c242]; rfl) (by decide) ?_
        refine hq_aload_n C.1.1 C.1.2.1 d_LW_law_423 rfl (lv_at hl 1 rfl) ?_
        refine lv_aload_n C.1.1 C.1.2.1 d_LW_law_424 rfl (lv_at hl 0 rfl) ?_
        refine lv_iload_n C.1.1 C.1.2.1 d_LW_law_425 rfl (lv_at hl 3 rfl) ?_
        refine lv_iconst (v := 1) C.1.1 C.1.2.1 d_LW_law_426 (by decide) ?_
        refine lv_iadd C.1.1 C.1.2.1 d_LW_law_427 ?_
        replace hf := Option.bind_eq_some_iff.mp hf
        obtain ⟨x243, e244, hf⟩ := hf
        refine hq_sld C.1.1 C.1.2.1 hX hbl hbA I.2.2 e244 d_LW_law_428 ?_
        refine lv_aload_n C.1.1 C.1.2.1 d_LW_law_429 rfl (lv_at hl 0 rfl) ?_
        refine lv_iload_n C.1.1 C.1.2.1 d_LW_law_430 rfl (lv_at hl 3 rfl) ?_
        refine lv_iconst (v := 2) C.1.1 C.1.2.1 d_LW_law_431 (by decide) ?_
        refine lv_iadd C.1.1 C.1.2.1 d_LW_law_432 ?_
        replace hf := Option.bind_eq_some_iff.mp hf
        obtain ⟨x245, e246, hf⟩ := hf
        refine hq_sld C.1.1 C.1.2.1 hX hbl hbA I.2.2 e246 d_LW_law_433 ?_
        replace hf := Option.bind_eq_some_iff.mp hf
        obtain ⟨b249, e250, hf⟩ := hf
        obtain ⟨e250r, _, e250c⟩ := hp_o_inv e250
        replace hf := Option.bind_eq_some_iff.mp hf
        obtain ⟨q247, e248, hf⟩ := hf
        refine hq_callW gt_good C I hl.1 (k_LL_find l G s.heap.size _ b249 x243 x245 q247 e248) M_LW_69 e250c e250r ⟨rfl, rfl⟩ ⟨Nat.le_of_ble_eq_true rfl, Nat.le_of_ble_eq_true rfl⟩ rfl (Nat.le_of_ble_eq_true rfl) d_LW_law_434 ⟨show _ ≤ 600000 by omega, show _ ≤ 7302250 by omega⟩ (fun H locs I => ?_)
        refine W.widen (k := cN + 0) (n := sN + 0) (by omega) (by omega) ?_
        refine hq_aload_n C.1.1 C.1.2.1 d_LW_law_437 rfl (lv_at hl 2 rfl) ?_
        refine lv_aload_n C.1.1 C.1.2.1 d_LW_law_438 rfl (lv_at hl 0 rfl) ?_
        refine lv_iload_n C.1.1 C.1.2.1 d_LW_law_439 rfl (lv_at hl 3 rfl) ?_
        refine lv_iconst (v := 1) C.1.1 C.1.2.1 d_LW_law_440 (by decide) ?_
        refine lv_iadd C.1.1 C.1.2.1 d_LW_law_441 ?_
        replace hf := Option.bind_eq_some_iff.mp hf
        obtain ⟨x251, e252, hf⟩ := hf
        refine hq_sld C.1.1 C.1.2.1 hX hbl hbA I.2.2 e252 d_LW_law_442 ?_
        refine lv_aload_n C.1.1 C.1.2.1 d_LW_law_443 rfl (lv_at hl 0 rfl) ?_
        refine lv_iload_n C.1.1 C.1.2.1 d_LW_law_444 rfl (lv_at hl 3 rfl) ?_
        refine lv_iconst (v := 2) C.1.1 C.1.2.1 d_LW_law_445 (by decide) ?_
        refine lv_iadd C.1.1 C.1.2.1 d_LW_law_446 ?_
        replace hf := Option.bind_eq_some_iff.mp hf
        obtain ⟨x253, e254, hf⟩ := hf
        refine hq_sld C.1.1 C.1.2.1 hX hbl hbA I.2.2 e254 d_LW_law_447 ?_
        replace hf := Option.bind_eq_some_iff.mp hf
        obtain ⟨b257, e258, hf⟩ := hf
        obtain ⟨e258r, _, e258c⟩ := hp_o_inv e258
        replace hf := Option.bind_eq_some_iff.mp hf
        obtain ⟨q255, e256, hf⟩ := hf
        refine hq_callW gt_good C I hl.1 (k_MD_find l G s.heap.size _ b257 x251 x253 q255 e256) M_LW_73 e258c e258r ⟨rfl, rfl⟩ ⟨Nat.le_of_ble_eq_true rfl, Nat.le_of_ble_eq_true rfl⟩ rfl (Nat.le_of_ble_eq_true rfl) d_LW_law_448 ⟨show _ ≤ 600000 by omega, show _ ≤ 7302250 by omega⟩ (fun H locs I => ?_)
        refine W.widen (k := cN + 0) (n := sN + 0) (by omega) (by omega) ?_
        refine lv_icmp_eq (tgt := 512) C.1.1 C.1.2.1 d_LW_law_451 (by decide) (fun c259 => ?_) (fun c259 => ?_)
        · rw [if_pos c259] at hf
          refine lv_iinc (v := (y3 + 4)) (lv' := [(3, .int (y3 + 4)), (0, .ref b), (1, va_rf y1), (2, va_rf y2)]) C.1.1 C.1.2.1 d_LW_law_512 hl (k := 3) rfl rfl (by decide) (by first | rfl | simp [hq_cat, hq_catI, hq_catL]) (fun ls hl => ?_)
          refine lv_goto (tgt := 18) C.1.1 C.1.2.1 d_LW_law_515 (by decide) ?_
          refine W.widen (k := cN + 7) (n := sN + 72) (by omega) (by omega) ?_
          exact ih y1 y2 (y3 + 4) q255.2 hf (cN + 7) (sN + 72) (by omega) (by omega) _ _ I ls (lv_sub hl [1, 2, 3, 0] rfl)
        · rw [if_neg c259] at hf
          refine lv_iconst (v := 0) C.1.1 C.1.2.1 d_LW_law_454 (by decide) ?_
          cases hf
      rw [if_neg c242] at hf
      by_cases c260 : (x12 &&& (15 : Int32)) = 14
      · rw [if_pos c260] at hf
        refine lv_tableIn (tgt := 456) C.1.1 C.1.2.1 d_LW_law_32 (by rw [c260]; decide) (by rw [c260]; decide) (by rw [c260]; rfl) (by decide) ?_
        refine hq_aload_n C.1.1 C.1.2.1 d_LW_law_456 rfl (lv_at hl 1 rfl) ?_
        refine lv_aload_n C.1.1 C.1.2.1 d_LW_law_457 rfl (lv_at hl 0 rfl) ?_
        refine lv_iload_n C.1.1 C.1.2.1 d_LW_law_458 rfl (lv_at hl 3 rfl) ?_
        refine lv_iconst (v := 1) C.1.1 C.1.2.1 d_LW_law_459 (by decide) ?_
        refine lv_iadd C.1.1 C.1.2.1 d_LW_law_460 ?_
        replace hf := Option.bind_eq_some_iff.mp hf
        obtain ⟨x261, e262, hf⟩ := hf
        refine hq_sld C.1.1 C.1.2.1 hX hbl hbA I.2.2 e262 d_LW_law_461 ?_
        refine lv_aload_n C.1.1 C.1.2.1 d_LW_law_462 rfl (lv_at hl 0 rfl) ?_
        refine lv_iload_n C.1.1 C.1.2.1 d_LW_law_463 rfl (lv_at hl 3 rfl) ?_
        refine lv_iconst (v := 2) C.1.1 C.1.2.1 d_LW_law_464 (by decide) ?_
        refine lv_iadd C.1.1 C.1.2.1 d_LW_law_465 ?_
        replace hf := Option.bind_eq_some_iff.mp hf
        obtain ⟨x263, e264, hf⟩ := hf
        refine hq_sld C.1.1 C.1.2.1 hX hbl hbA I.2.2 e264 d_LW_law_466 ?_
        replace hf := Option.bind_eq_some_iff.mp hf
        obtain ⟨b267, e268, hf⟩ := hf
        obtain ⟨e268r, _, e268c⟩ := hp_o_inv e268
        replace hf := Option.bind_eq_some_iff.mp hf
        obtain ⟨q265, e266, hf⟩ := hf
        refine hq_callW gt_good C I hl.1 (k_LL_text l G s.heap.size _ b267 x261 x263 q265 e266) M_LW_74 e268c e268r ⟨rfl, rfl⟩ ⟨Nat.le_of_ble_eq_true rfl, Nat.le_of_ble_eq_true rfl⟩ rfl (Nat.le_of_ble_eq_true rfl) d_LW_law_467 ⟨show _ ≤ 600000 by omega, show _ ≤ 7302250 by omega⟩ (fun H locs I => ?_)
        refine W.widen (k := cN + 0) (n := sN + 0) (by omega) (by omega) ?_
        refine hq_aload_n C.1.1 C.1.2.1 d_LW_law_470 rfl (lv_at hl 2 rfl) ?_
        refine lv_aload_n C.1.1 C.1.2.1 d_LW_law_471 rfl (lv_at hl 0 rfl) ?_
        refine lv_iload_n C.1.1 C.1.2.1 d_LW_law_472 rfl (lv_at hl 3 rfl) ?_
        refine lv_iconst (v := 1) C.1.1 C.1.2.1 d_LW_law_473 (by decide) ?_
        refine lv_iadd C.1.1 C.1.2.1 d_LW_law_474 ?_
        replace hf := Option.bind_eq_some_iff.mp hf
        obtain ⟨x269, e270, hf⟩ := hf
        refine hq_sld C.1.1 C.1.2.1 hX hbl hbA I.2.2 e270 d_LW_law_475 ?_
        refine lv_aload_n C.1.1 C.1.2.1 d_LW_law_476 rfl (lv_at hl 0 rfl) ?_
        refine lv_iload_n C.1.1 C.1.2.1 d_LW_law_477 rfl (lv_at hl 3 rfl) ?_
        refine lv_iconst (v := 2) C.1.1 C.1.2.1 d_LW_law_478 (by decide) ?_
        refine lv_iadd C.1.1 C.1.2.1 d_LW_law_479 ?_
        replace hf := Option.bind_eq_some_iff.mp hf
        obtain ⟨x271, e272, hf⟩ := hf
        refine hq_sld C.1.1 C.1.2.1 hX hbl hbA I.2.2 e272 d_LW_law_480 ?_
        replace hf := Option.bind_eq_some_iff.mp hf
        obtain ⟨b275, e276, hf⟩ := hf
        obtain ⟨e276r, _, e276c⟩ := hp_o_inv e276
        replace hf := Option.bind_eq_some_iff.mp hf
        obtain ⟨q273, e274, hf⟩ := hf
        refine hq_callW gt_good C I hl.1 (k_MD_text l G s.heap.size _ b275 x269 x271 q273 e274) M_LW_77 e276c e276r ⟨rfl, rfl⟩ ⟨Nat.le_of_ble_eq_true rfl, Nat.le_of_ble_eq_true rfl⟩ rfl (Nat.le_of_ble_eq_true rfl) d_LW_law_481 ⟨show _ ≤ 600000 by omega, show _ ≤ 7302250 by omega⟩ (fun H locs I => ?_)
        refine W.widen (k := cN + 0) (n := sN + 0) (by omega) (by omega) ?_
        refine lv_icmp_eq (tgt := 512) C.1.1 C.1.2.1 d_LW_law_484 (by decide) (fun c277 => ?_) (fun c277 => ?_)
        · rw [if_pos c277] at hf
          refine lv_iinc (v := (y3 + 4)) (lv' := [(3, .int (y3 + 4)), (0, .ref b), (1, va_rf y1), (2, va_rf y2)]) C.1.1 C.1.2.1 d_LW_law_512 hl (k := 3) rfl rfl (by decide) (by first | rfl | simp [hq_cat, hq_catI, hq_catL]) (fun ls hl => ?_)
          refine lv_goto (tgt := 18) C.1.1 C.1.2.1 d_LW_law_515 (by decide) ?_
          refine W.widen (k := cN + 7) (n := sN + 72) (by omega) (by omega) ?_
          exact ih y1 y2 (y3 + 4) q273.2 hf (cN + 7) (sN + 72) (by omega) (by omega) _ _ I ls (lv_sub hl [1, 2, 3, 0] rfl)
        · rw [if_neg c277] at hf
          refine lv_iconst (v := 0) C.1.1 C.1.2.1 d_LW_law_487 (by decide) ?_
          cases hf
      rw [if_neg c260] at hf
      by_cases c278 : (x12 &&& (15 : Int32)) = 15
      · rw [if_pos c278] at hf
        refine lv_tableIn (tgt := 489) C.1.1 C.1.2.1 d_LW_law_32 (by rw [c278]; decide) (by rw [c278]; decide) (by rw [c278]; rfl) (by decide) ?_
        refine hq_aload_n C.1.1 C.1.2.1 d_LW_law_489 rfl (lv_at hl 1 rfl) ?_
        refine lv_aload_n C.1.1 C.1.2.1 d_LW_law_490 rfl (lv_at hl 0 rfl) ?_
        refine lv_iload_n C.1.1 C.1.2.1 d_LW_law_491 rfl (lv_at hl 3 rfl) ?_
        refine lv_iconst (v := 1) C.1.1 C.1.2.1 d_LW_law_492 (by decide) ?_
        refine lv_iadd C.1.1 C.1.2.1 d_LW_law_493 ?_
        replace hf := Option.bind_eq_some_iff.mp hf
        obtain ⟨x279, e280, hf⟩ := hf
        refine hq_sld C.1.1 C.1.2.1 hX hbl hbA I.2.2 e280 d_LW_law_494 ?_
        replace hf := Option.bind_eq_some_iff.mp hf
        obtain ⟨b283, e284, hf⟩ := hf
        obtain ⟨e284r, _, e284c⟩ := hp_o_inv e284
        replace hf := Option.bind_eq_some_iff.mp hf
        obtain ⟨q281, e282, hf⟩ := hf
        refine hq_callW gt_good C I hl.1 (k_LL_count l G s.heap.size _ b283 x279 q281 e282) M_LW_78 e284c e284r ⟨rfl, rfl⟩ ⟨Nat.le_of_ble_eq_true rfl, Nat.le_of_ble_eq_true rfl⟩ rfl (Nat.le_of_ble_eq_true rfl) d_LW_law_495 ⟨show _ ≤ 600000 by omega, show _ ≤ 7302250 by omega⟩ (fun H locs I => ?_)
        refine W.widen (k := cN + 0) (n := sN + 0) (by omega) (by omega) ?_
        refine hq_aload_n C.1.1 C.1.2.1 d_LW_law_498 rfl (lv_at hl 2 rfl) ?_
        refine lv_aload_n C.1.1 C.1.2.1 d_LW_law_499 rfl (lv_at hl 0 rfl) ?_
        refine lv_iload_n C.1.1 C.1.2.1 d_LW_law_500 rfl (lv_at hl 3 rfl) ?_
        refine lv_iconst (v := 1) C.1.1 C.1.2.1 d_LW_law_501 (by decide) ?_
        refine lv_iadd C.1.1 C.1.2.1 d_LW_law_502 ?_
        replace hf := Option.bind_eq_some_iff.mp hf
        obtain ⟨x285, e286, hf⟩ := hf
        refine hq_sld C.1.1 C.1.2.1 hX hbl hbA I.2.2 e286 d_LW_law_503 ?_
        replace hf := Option.bind_eq_some_iff.mp hf
        obtain ⟨b289, e290, hf⟩ := hf
        obtain ⟨e290r, _, e290c⟩ := hp_o_inv e290
        replace hf := Option.bind_eq_some_iff.mp hf
        obtain ⟨q287, e288, hf⟩ := hf
        refine hq_callW gt_good C I hl.1 (k_MD_count l G s.heap.size _ b289 x285 q287 e288) M_LW_81 e290c e290r ⟨rfl, rfl⟩ ⟨Nat.le_of_ble_eq_true rfl, Nat.le_of_ble_eq_true rfl⟩ rfl (Nat.le_of_ble_eq_true rfl) d_LW_law_504 ⟨show _ ≤ 600000 by omega, show _ ≤ 7302250 by omega⟩ (fun H locs I => ?_)
        refine W.widen (k := cN + 0) (n := sN + 0) (by omega) (by omega) ?_
        refine lv_icmp_eq (tgt := 512) C.1.1 C.1.2.1 d_LW_law_507 (by decide) (fun c291 => ?_) (fun c291 => ?_)
        · rw [if_pos c291] at hf
          refine lv_iinc (v := (y3 + 4)) (lv' := [(3, .int (y3 + 4)), (0, .ref b), (1, va_rf y1), (2, va_rf y2)]) C.1.1 C.1.2.1 d_LW_law_512 hl (k := 3) rfl rfl (by decide) (by first | rfl | simp [hq_cat, hq_catI, hq_catL]) (fun ls hl => ?_)
          refine lv_goto (tgt := 18) C.1.1 C.1.2.1 d_LW_law_515 (by decide) ?_
          refine W.widen (k := cN + 7) (n := sN + 72) (by omega) (by omega) ?_
          exact ih y1 y2 (y3 + 4) q287.2 hf (cN + 7) (sN + 72) (by omega) (by omega) _ _ I ls (lv_sub hl [1, 2, 3, 0] rfl)
        · rw [if_neg c291] at hf
          refine lv_iconst (v := 0) C.1.1 C.1.2.1 d_LW_law_510 (by decide) ?_
          cases hf
      rw [if_neg c278] at hf
      refine lv_tableOut (tgt := 512) C.1.1 C.1.2.1 d_LW_law_32 (hq_tab 0 15 rfl rfl (by decide) (fun k h1 h2 => by rcases (show k = 0 ∨ k = 1 ∨ k = 2 ∨ k = 3 ∨ k = 4 ∨ k = 5 ∨ k = 6 ∨ k = 7 ∨ k = 8 ∨ k = 9 ∨ k = 10 ∨ k = 11 ∨ k = 12 ∨ k = 13 ∨ k = 14 ∨ k = 15 by omega) with rfl | rfl | rfl | rfl | rfl | rfl | rfl | rfl | rfl | rfl | rfl | rfl | rfl | rfl | rfl | rfl <;> assumption)) (by decide) ?_
      refine lv_iinc (v := (y3 + 4)) (lv' := [(3, .int (y3 + 4)), (0, .ref b), (1, va_rf y1), (2, va_rf y2)]) C.1.1 C.1.2.1 d_LW_law_512 hl (k := 3) rfl rfl (by decide) (by first | rfl | simp [hq_cat, hq_catI, hq_catL]) (fun ls hl => ?_)
      refine lv_goto (tgt := 18) C.1.1 C.1.2.1 d_LW_law_515 (by decide) ?_
      refine W.widen (k := cN + 7) (n := sN + 72) (by omega) (by omega) ?_
      exact ih y1 y2 (y3 + 4) h hf (cN + 7) (sN + 72) (by omega) (by omega) _ _ I ls (lv_sub hl [1, 2, 3, 0] rfl)
set_option maxRecDepth 100000 in
set_option maxHeartbeats 4000000 in
theorem k_LW_law {p : Program} {l : Launch} {e : Env} {s : State} {m : MethodId} {below : List Frame} {meth : Method} {c : Code} {G : hp_G} {b L : Nat} {xs : Nat → Int32} (C : hq_C p s m #[Value.ref b] meth c code 4 ret "LayeredLauncherLaw" meth.name gt G vwCl aTs) (hX : va_X b L xs s s.heap) (hbl : b < s.heap.size) (h : hp_H) (hf : f_LW_law xs L h = some ()) (locs : List Loc) (I : hp_I G vwCl s.heap.size s.heap h s.heap locs) (ls : Array Slot) (hl : lv_has ls 4 [(0, .ref b)]) : W p l e room_1 s m #[Value.ref b] below meth c s.heap locs 0 0 (lw_Z below #[Value.ref b] s) (F0 m 0 ls []) := by
  unfold f_LW_law at hf
  refine hq_new C I K_LL g47 g48 g36 (fs := [.null, .null, .int 0, .null, .null, .int 0]) (fun j hj => born_LL j hj) (Nat.le_of_ble_eq_true rfl) (Nat.le_of_ble_eq_true rfl) d_LW_law_0 (fun H I => ?_)
  refine W.widen (k := 1) (n := 6) (by decide) (by decide) ?_
  replace hf := Option.bind_eq_some_iff.mp hf
  obtain ⟨h3, e2, hf⟩ := hf
  rw [Option.some.inj e2] at I
  refine lv_dup C.1.1 C.1.2.1 d_LW_law_3 (hq_cat _) ?_
  replace hf := Option.bind_eq_some_iff.mp hf
  obtain ⟨q4, e5, hf⟩ := hf
  refine hq_callI gt_good C I hl.1 (k_LL_init l G s.heap.size _ h.2 q4 e5) M_LW_9 ⟨rfl, rfl⟩ ⟨Nat.le_of_ble_eq_true rfl, Nat.le_of_ble_eq_true rfl⟩ rfl (by simp [hq_cat, hq_catI, hq_catL]) d_LW_law_4 ⟨Nat.le_of_ble_eq_true rfl, Nat.le_of_ble_eq_true rfl⟩ (fun H locs I => ?_)
  refine W.widen (k := 14) (n := 239) (by decide) (by decide) ?_
  refine hq_astore_n (r := (some h.2)) (i := 1) (lv' := [(1, va_rf (some h.2)), (0, .ref b)]) C.1.1 C.1.2.1 d_LW_law_7 rfl hl (by decide) (by first | rfl | simp [hq_cat, hq_catI, hq_catL]) (fun ls hl => ?_)
  refine hq_new C I K_MD g480 g481 g39 (fs := [.int 0, .null, .int 0, .null, .int 0, .null, .null, .null, .null, .null, .null, .null, .null, .null, .null, .null, .null, .int 0, .int 0, .int 0, .null, .null, .null, .null, .null, .int 0, .null, .int 0, .int 0]) (fun j hj => born_MD j hj) (Nat.le_of_ble_eq_true rfl) (Nat.le_of_ble_eq_true rfl) d_LW_law_8 (fun H I => ?_)
  refine W.widen (k := 15) (n := 268) (by decide) (by decide) ?_
  replace hf := Option.bind_eq_some_iff.mp hf
  obtain ⟨h8, e7, hf⟩ := hf
  rw [Option.some.inj e7] at I
  refine lv_dup C.1.1 C.1.2.1 d_LW_law_11 (hq_cat _) ?_
  replace hf := Option.bind_eq_some_iff.mp hf
  obtain ⟨q9, e10, hf⟩ := hf
  refine hq_callI gt_good C I hl.1 (k_MD_init l G s.heap.size _ q4.2 q9 e10) M_LW_12 ⟨rfl, rfl⟩ ⟨Nat.le_of_ble_eq_true rfl, Nat.le_of_ble_eq_true rfl⟩ rfl (by simp [hq_cat, hq_catI, hq_catL]) d_LW_law_12 ⟨Nat.le_of_ble_eq_true rfl, Nat.le_of_ble_eq_true rfl⟩ (fun H locs I => ?_)
  refine W.widen (k := 35) (n := 9508) (by decide) (by decide) ?_
  refine hq_astore_n (r := (some q4.2)) (i := 2) (lv' := [(2, va_rf (some q4.2)), (1, va_rf (some h.2)), (0, .ref b)]) C.1.1 C.1.2.1 d_LW_law_15 rfl hl (by decide) (by first | rfl | simp [hq_cat, hq_catI, hq_catL]) (fun ls hl => ?_)
  refine lv_iconst (v := 0) C.1.1 C.1.2.1 d_LW_law_16 (by decide) ?_
  refine lv_istore_n (i := 3) (lv' := [(3, .int (0 : Int32)), (2, va_rf (some q4.2)), (1, va_rf (some h.2)), (0, .ref b)]) C.1.1 C.1.2.1 d_LW_law_17 rfl hl (by decide) (by first | rfl | simp [hq_cat, hq_catI, hq_catL]) (fun ls hl => ?_)
  exact k_LW_law_L18 C hX hbl 1000 (some h.2) (some q4.2) (0 : Int32) q9 hf _ _ (by decide) (by decide) _ _ I ls (lv_sub hl [3, 2, 1, 0] rfl)
