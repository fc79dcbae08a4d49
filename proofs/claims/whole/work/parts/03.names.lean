/-! ===== names: classes and their fields, arrays, words, fields and calls by their places in the constant pools ===== -/
def gt : List Cond := lw_tbl.filter goodWord
def T_LL : u_T := fun k => match k with
  | 0 => ("LayeredLauncher", "line", "LLayeredLauncher$Line;", true)
  | 1 => ("LayeredLauncher", "artifacts", "[LLayeredLauncher$Artifact;", true)
  | 2 => ("LayeredLauncher", "artifactCount", "I", false)
  | 3 => ("LayeredLauncher", "result", "LLayeredLauncher$EntryList;", false)
  | 4 => ("LayeredLauncher", "draft", "LLayeredLauncher$EntryList;", false)
  | _ => ("LayeredLauncher", "lastCulprit", "I", false)
def t_LL : Nat → FieldType := fun k => match k with
  | 0 => .object "LayeredLauncher$Line"
  | 1 => .array (.object "LayeredLauncher$Artifact")
  | 2 => .int
  | 3 => .object "LayeredLauncher$EntryList"
  | 4 => .object "LayeredLauncher$EntryList"
  | _ => .int
def T_LN : u_T := fun k => match k with
  | 0 => ("LayeredLauncher$Line", "characters", "[C", true)
  | 1 => ("LayeredLauncher$Line", "length", "I", false)
  | _ => ("LayeredLauncher$Line", "at", "I", false)
def t_LN : Nat → FieldType := fun k => match k with
  | 0 => .array .char
  | 1 => .int
  | _ => .int
def T_EL : u_T := fun k => match k with
  | 0 => ("LayeredLauncher$EntryList", "artifacts", "[LLayeredLauncher$Artifact;", true)
  | 1 => ("LayeredLauncher$EntryList", "depths", "[I", true)
  | 2 => ("LayeredLauncher$EntryList", "parents", "[I", true)
  | 3 => ("LayeredLauncher$EntryList", "reasons", "[LLayeredLauncher$Dependency;", true)
  | _ => ("LayeredLauncher$EntryList", "size", "I", false)
def t_EL : Nat → FieldType := fun k => match k with
  | 0 => .array (.object "LayeredLauncher$Artifact")
  | 1 => .array .int
  | 2 => .array .int
  | 3 => .array (.object "LayeredLauncher$Dependency")
  | _ => .int
def T_AR : u_T := fun k => match k with
  | 0 => ("LayeredLauncher$Artifact", "number", "I", true)
  | 1 => ("LayeredLauncher$Artifact", "name", "J", true)
  | 2 => ("LayeredLauncher$Artifact", "version", "LLayeredLauncher$Version;", true)
  | 3 => ("LayeredLauncher$Artifact", "characters", "[C", true)
  | 4 => ("LayeredLauncher$Artifact", "dependencies", "[LLayeredLauncher$Dependency;", true)
  | 5 => ("LayeredLauncher$Artifact", "dependencyCount", "I", false)
  | 6 => ("LayeredLauncher$Artifact", "classes", "I", false)
  | _ => ("LayeredLauncher$Artifact", "retired", "Z", false)
def t_AR : Nat → FieldType := fun k => match k with
  | 0 => .int
  | 1 => .long
  | 2 => .object "LayeredLauncher$Version"
  | 3 => .array .char
  | 4 => .array (.object "LayeredLauncher$Dependency")
  | 5 => .int
  | 6 => .int
  | _ => .boolean
def T_DP : u_T := fun k => match k with
  | 0 => ("LayeredLauncher$Dependency", "name", "J", true)
  | 1 => ("LayeredLauncher$Dependency", "range", "LLayeredLauncher$Range;", true)
  | 2 => ("LayeredLauncher$Dependency", "optional", "Z", true)
  | 3 => ("LayeredLauncher$Dependency", "exclusions", "[J", true)
  | _ => ("LayeredLauncher$Dependency", "exclusionCount", "I", false)
def t_DP : Nat → FieldType := fun k => match k with
  | 0 => .long
  | 1 => .object "LayeredLauncher$Range"
  | 2 => .boolean
  | 3 => .array .long
  | _ => .int
def T_RG : u_T := fun k => match k with
  | 0 => ("LayeredLauncher$Range", "wish", "Z", true)
  | 1 => ("LayeredLauncher$Range", "low", "LLayeredLauncher$Version;", true)
  | 2 => ("LayeredLauncher$Range", "lowOpen", "Z", true)
  | 3 => ("LayeredLauncher$Range", "high", "LLayeredLauncher$Version;", true)
  | _ => ("LayeredLauncher$Range", "highOpen", "Z", true)
def t_RG : Nat → FieldType := fun k => match k with
  | 0 => .boolean
  | 1 => .object "LayeredLauncher$Version"
  | 2 => .boolean
  | 3 => .object "LayeredLauncher$Version"
  | _ => .boolean
def T_VS : u_T := fun k => match k with
  | _ => ("LayeredLauncher$Version", "parts", "[J", true)
def t_VS : Nat → FieldType := fun k => match k with
  | _ => .array .long
def T_MD : u_T := fun k => match k with
  | 0 => ("LayeredLauncherModel", "typed", "I", false)
  | 1 => ("LayeredLauncherModel", "line", "[I", true)
  | 2 => ("LayeredLauncherModel", "n", "I", false)
  | 3 => ("LayeredLauncherModel", "t", "[I", true)
  | 4 => ("LayeredLauncherModel", "artifacts", "I", false)
  | 5 => ("LayeredLauncherModel", "textLength", "[I", true)
  | 6 => ("LayeredLauncherModel", "text", "[I", true)
  | 7 => ("LayeredLauncherModel", "colon", "[I", true)
  | 8 => ("LayeredLauncherModel", "retired", "[Z", true)
  | 9 => ("LayeredLauncherModel", "classes", "[I", true)
  | 10 => ("LayeredLauncherModel", "deps", "[I", true)
  | 11 => ("LayeredLauncherModel", "optional", "[Z", true)
  | 12 => ("LayeredLauncherModel", "depLength", "[I", true)
  | 13 => ("LayeredLauncherModel", "depText", "[I", true)
  | 14 => ("LayeredLauncherModel", "exclusions", "[I", true)
  | 15 => ("LayeredLauncherModel", "exLength", "[I", true)
  | 16 => ("LayeredLauncherModel", "exText", "[I", true)
  | 17 => ("LayeredLauncherModel", "culprit", "I", false)
  | 18 => ("LayeredLauncherModel", "result", "I", false)
  | 19 => ("LayeredLauncherModel", "making", "I", false)
  | 20 => ("LayeredLauncherModel", "art", "[I", true)
  | 21 => ("LayeredLauncherModel", "deep", "[I", true)
  | 22 => ("LayeredLauncherModel", "from", "[I", true)
  | 23 => ("LayeredLauncherModel", "by", "[I", true)
  | 24 => ("LayeredLauncherModel", "va", "[I", true)
  | 25 => ("LayeredLauncherModel", "na", "I", false)
  | 26 => ("LayeredLauncherModel", "vb", "[I", true)
  | 27 => ("LayeredLauncherModel", "nb", "I", false)
  | _ => ("LayeredLauncherModel", "end", "I", false)
def t_MD : Nat → FieldType := fun k => match k with
  | 0 => .int
  | 1 => .array .int
  | 2 => .int
  | 3 => .array .int
  | 4 => .int
  | 5 => .array .int
  | 6 => .array .int
  | 7 => .array .int
  | 8 => .array .boolean
  | 9 => .array .int
  | 10 => .array .int
  | 11 => .array .boolean
  | 12 => .array .int
  | 13 => .array .int
  | 14 => .array .int
  | 15 => .array .int
  | 16 => .array .int
  | 17 => .int
  | 18 => .int
  | 19 => .int
  | 20 => .array .int
  | 21 => .array .int
  | 22 => .array .int
  | 23 => .array .int
  | 24 => .array .int
  | 25 => .int
  | 26 => .array .int
  | 27 => .int
  | _ => .int
abbrev vwCl : List vw_C := [("LayeredLauncher", T_LL, 6), ("LayeredLauncher$Line", T_LN, 3), ("LayeredLauncher$EntryList", T_EL, 5), ("LayeredLauncher$Artifact", T_AR, 8), ("LayeredLauncher$Dependency", T_DP, 5), ("LayeredLauncher$Range", T_RG, 5), ("LayeredLauncher$Version", T_VS, 1), ("LayeredLauncherModel", T_MD, 29)]
abbrev aTs : List FieldType := [.int, .long, .char, .boolean, .object "LayeredLauncher$Artifact", .object "LayeredLauncher$Dependency"]
theorem K_LL : hq_K gt vwCl 0 "LayeredLauncher" T_LL 6 t_LL := ⟨rfl, fun w hw => List.mem_filter.mpr ⟨(by decide +kernel : ∀ w ∈ u_ws "LayeredLauncher" T_LL 6, w ∈ lw_tbl) w hw, (by decide +kernel : ∀ w ∈ u_ws "LayeredLauncher" T_LL 6, goodWord w = true) w hw⟩, by decide +kernel, by decide +kernel⟩
theorem born_LL : ∀ j, j < 6 → defaultValue (t_LL j) = vp_V [.null, .null, .int 0, .null, .null, .int 0] j := by decide +kernel
theorem K_LN : hq_K gt vwCl 1 "LayeredLauncher$Line" T_LN 3 t_LN := ⟨rfl, fun w hw => List.mem_filter.mpr ⟨(by decide +kernel : ∀ w ∈ u_ws "LayeredLauncher$Line" T_LN 3, w ∈ lw_tbl) w hw, (by decide +kernel : ∀ w ∈ u_ws "LayeredLauncher$Line" T_LN 3, goodWord w = true) w hw⟩, by decide +kernel, by decide +kernel⟩
theorem born_LN : ∀ j, j < 3 → defaultValue (t_LN j) = vp_V [.null, .int 0, .int 0] j := by decide +kernel
theorem K_EL : hq_K gt vwCl 2 "LayeredLauncher$EntryList" T_EL 5 t_EL := ⟨rfl, fun w hw => List.mem_filter.mpr ⟨(by decide +kernel : ∀ w ∈ u_ws "LayeredLauncher$EntryList" T_EL 5, w ∈ lw_tbl) w hw, (by decide +kernel : ∀ w ∈ u_ws "LayeredLauncher$EntryList" T_EL 5, goodWord w = true) w hw⟩, by decide +kernel, by decide +kernel⟩
theorem born_EL : ∀ j, j < 5 → defaultValue (t_EL j) = vp_V [.null, .null, .null, .null, .int 0] j := by decide +kernel
theorem K_AR : hq_K gt vwCl 3 "LayeredLauncher$Artifact" T_AR 8 t_AR := ⟨rfl, fun w hw => List.mem_filter.mpr ⟨(by decide +kernel : ∀ w ∈ u_ws "LayeredLauncher$Artifact" T_AR 8, w ∈ lw_tbl) w hw, (by decide +kernel : ∀ w ∈ u_ws "LayeredLauncher$Artifact" T_AR 8, goodWord w = true) w hw⟩, by decide +kernel, by decide +kernel⟩
theorem born_AR : ∀ j, j < 8 → defaultValue (t_AR j) = vp_V [.int 0, .long 0, .null, .null, .null, .int 0, .int 0, .int 0] j := by decide +kernel
theorem K_DP : hq_K gt vwCl 4 "LayeredLauncher$Dependency" T_DP 5 t_DP := ⟨rfl, fun w hw => List.mem_filter.mpr ⟨(by decide +kernel : ∀ w ∈ u_ws "LayeredLauncher$Dependency" T_DP 5, w ∈ lw_tbl) w hw, (by decide +kernel : ∀ w ∈ u_ws "LayeredLauncher$Dependency" T_DP 5, goodWord w = true) w hw⟩, by decide +kernel, by decide +kernel⟩
theorem born_DP : ∀ j, j < 5 → defaultValue (t_DP j) = vp_V [.long 0, .null, .int 0, .null, .int 0] j := by decide +kernel
theorem K_RG : hq_K gt vwCl 5 "LayeredLauncher$Range" T_RG 5 t_RG := ⟨rfl, fun w hw => List.mem_filter.mpr ⟨(by decide +kernel : ∀ w ∈ u_ws "LayeredLauncher$Range" T_RG 5, w ∈ lw_tbl) w hw, (by decide +kernel : ∀ w ∈ u_ws "LayeredLauncher$Range" T_RG 5, goodWord w = true) w hw⟩, by decide +kernel, by decide +kernel⟩
theorem born_RG : ∀ j, j < 5 → defaultValue (t_RG j) = vp_V [.int 0, .null, .int 0, .null, .int 0] j := by decide +kernel
theorem K_VS : hq_K gt vwCl 6 "LayeredLauncher$Version" T_VS 1 t_VS := ⟨rfl, fun w hw => List.mem_filter.mpr ⟨(by decide +kernel : ∀ w ∈ u_ws "LayeredLauncher$Version" T_VS 1, w ∈ lw_tbl) w hw, (by decide +kernel : ∀ w ∈ u_ws "LayeredLauncher$Version" T_VS 1, goodWord w = true) w hw⟩, by decide +kernel, by decide +kernel⟩
theorem born_VS : ∀ j, j < 1 → defaultValue (t_VS j) = vp_V [.null] j := by decide +kernel
theorem K_MD : hq_K gt vwCl 7 "LayeredLauncherModel" T_MD 29 t_MD := ⟨rfl, fun w hw => List.mem_filter.mpr ⟨(by decide +kernel : ∀ w ∈ u_ws "LayeredLauncherModel" T_MD 29, w ∈ lw_tbl) w hw, (by decide +kernel : ∀ w ∈ u_ws "LayeredLauncherModel" T_MD 29, goodWord w = true) w hw⟩, by decide +kernel, by decide +kernel⟩
theorem born_MD : ∀ j, j < 29 → defaultValue (t_MD j) = vp_V [.int 0, .null, .int 0, .null, .int 0, .null, .null, .null, .null, .null, .null, .null, .null, .null, .null, .null, .null, .int 0, .int 0, .int 0, .null, .null, .null, .null, .null, .int 0, .null, .int 0, .int 0] j := by decide +kernel
theorem gt_good : hq_gd gt := fun w hw => good_of_word (List.mem_filter.mp hw).2
/-- more rounds than any loop needs; a number that nothing computes -/
noncomputable def FU : Nat := Classical.choose (show ∃ n : Nat, n = 100000 from ⟨_, rfl⟩)
theorem FU_eq : FU = 100000 := Classical.choose_spec (show ∃ n : Nat, n = 100000 from ⟨_, rfl⟩)
abbrev b_LN_init : ByteArray := prog_5_method_1_code
abbrev y_LN_init : MethodName := ⟨"LayeredLauncher$Line", "<init>", "()V"⟩
abbrev b_EL_init : ByteArray := prog_4_method_1_code
abbrev y_EL_init : MethodName := ⟨"LayeredLauncher$EntryList", "<init>", "()V"⟩
abbrev b_LL_init : ByteArray := prog_1_method_1_code
abbrev y_LL_init : MethodName := ⟨"LayeredLauncher", "<init>", "()V"⟩
abbrev b_LN_append : ByteArray := prog_5_method_2_code
abbrev y_LN_append : MethodName := ⟨"LayeredLauncher$Line", "append", "(C)V"⟩
abbrev b_LL_type : ByteArray := prog_1_method_2_code
abbrev y_LL_type : MethodName := ⟨"LayeredLauncher", "type", "(I)I"⟩
abbrev b_LN_clear : ByteArray := prog_5_method_3_code
abbrev y_LN_clear : MethodName := ⟨"LayeredLauncher$Line", "clear", "()V"⟩
abbrev b_LL_wipe : ByteArray := prog_1_method_3_code
abbrev y_LL_wipe : MethodName := ⟨"LayeredLauncher", "wipe", "()I"⟩
abbrev b_JM_min : ByteArray := prog_11_method_69_code
abbrev y_JM_min : MethodName := ⟨"java/lang/Math", "min", "(II)I"⟩
abbrev b_LL_isLetter : ByteArray := prog_1_method_25_code
abbrev y_LL_isLetter : MethodName := ⟨"LayeredLauncher", "isLetter", "(C)Z"⟩
abbrev b_LL_letterNumber : ByteArray := prog_1_method_27_code
abbrev y_LL_letterNumber : MethodName := ⟨"LayeredLauncher", "letterNumber", "(C)I"⟩
abbrev b_LN_takeName : ByteArray := prog_5_method_8_code
abbrev y_LN_takeName : MethodName := ⟨"LayeredLauncher$Line", "takeName", "()J"⟩
abbrev b_LN_standsAt : ByteArray := prog_5_method_6_code
abbrev y_LN_standsAt : MethodName := ⟨"LayeredLauncher$Line", "standsAt", "(C)Z"⟩
abbrev b_LN_take : ByteArray := prog_5_method_7_code
abbrev y_LN_take : MethodName := ⟨"LayeredLauncher$Line", "take", "(C)Z"⟩
abbrev b_LN_takeNameAndColon : ByteArray := prog_5_method_9_code
abbrev y_LN_takeNameAndColon : MethodName := ⟨"LayeredLauncher$Line", "takeNameAndColon", "()J"⟩
abbrev b_LL_isDigit : ByteArray := prog_1_method_24_code
abbrev y_LL_isDigit : MethodName := ⟨"LayeredLauncher", "isDigit", "(C)Z"⟩
abbrev b_LL_isSeparator : ByteArray := prog_1_method_26_code
abbrev y_LL_isSeparator : MethodName := ⟨"LayeredLauncher", "isSeparator", "(C)Z"⟩
abbrev b_LN_isOfVersion : ByteArray := prog_5_method_14_code
abbrev y_LN_isOfVersion : MethodName := ⟨"LayeredLauncher$Line", "isOfVersion", "(C)Z"⟩
abbrev b_LN_isVersion : ByteArray := prog_5_method_13_code
abbrev y_LN_isVersion : MethodName := ⟨"LayeredLauncher$Line", "isVersion", "(II)Z"⟩
abbrev b_VS_init : ByteArray := prog_7_method_1_code
abbrev y_VS_init : MethodName := ⟨"LayeredLauncher$Version", "<init>", "([CII)V"⟩
abbrev b_LN_takeVersion : ByteArray := prog_5_method_10_code
abbrev y_LN_takeVersion : MethodName := ⟨"LayeredLauncher$Line", "takeVersion", "()LLayeredLauncher$Version;"⟩
abbrev b_LN_copy : ByteArray := prog_5_method_4_code
abbrev y_LN_copy : MethodName := ⟨"LayeredLauncher$Line", "copy", "()[C"⟩
abbrev b_LN_finishReading : ByteArray := prog_5_method_5_code
abbrev y_LN_finishReading : MethodName := ⟨"LayeredLauncher$Line", "finishReading", "()Z"⟩
abbrev b_RG_init : ByteArray := prog_6_method_1_code
abbrev y_RG_init : MethodName := ⟨"LayeredLauncher$Range", "<init>", "(ZLLayeredLauncher$Version;ZLLayeredLauncher$Version;Z)V"⟩
abbrev b_RG_exactly : ByteArray := prog_6_method_2_code
abbrev y_RG_exactly : MethodName := ⟨"LayeredLauncher$Range", "exactly", "(LLayeredLauncher$Version;Z)LLayeredLauncher$Range;"⟩
abbrev b_VS_orderAgainst : ByteArray := prog_7_method_2_code
abbrev y_VS_orderAgainst : MethodName := ⟨"LayeredLauncher$Version", "orderAgainst", "(LLayeredLauncher$Version;)I"⟩
abbrev b_RG_keepsLow : ByteArray := prog_6_method_4_code
abbrev y_RG_keepsLow : MethodName := ⟨"LayeredLauncher$Range", "keepsLow", "(LLayeredLauncher$Version;)Z"⟩
abbrev b_RG_keepsHigh : ByteArray := prog_6_method_5_code
abbrev y_RG_keepsHigh : MethodName := ⟨"LayeredLauncher$Range", "keepsHigh", "(LLayeredLauncher$Version;)Z"⟩
abbrev b_RG_holds : ByteArray := prog_6_method_3_code
abbrev y_RG_holds : MethodName := ⟨"LayeredLauncher$Range", "holds", "(LLayeredLauncher$Version;)Z"⟩
abbrev b_LL_pickFor : ByteArray := prog_1_method_20_code
abbrev y_LL_pickFor : MethodName := ⟨"LayeredLauncher", "pickFor", "(JLLayeredLauncher$Range;)LLayeredLauncher$Artifact;"⟩
abbrev b_AR_init : ByteArray := prog_2_method_1_code
abbrev y_AR_init : MethodName := ⟨"LayeredLauncher$Artifact", "<init>", "(IJLLayeredLauncher$Version;[C)V"⟩
abbrev b_LL_publish : ByteArray := prog_1_method_4_code
abbrev y_LL_publish : MethodName := ⟨"LayeredLauncher", "publish", "()I"⟩
abbrev b_LN_takeRestOfRange : ByteArray := prog_5_method_12_code
abbrev y_LN_takeRestOfRange : MethodName := ⟨"LayeredLauncher$Line", "takeRestOfRange", "(LLayeredLauncher$Version;Z)LLayeredLauncher$Range;"⟩
abbrev b_LN_takeRange : ByteArray := prog_5_method_11_code
abbrev y_LN_takeRange : MethodName := ⟨"LayeredLauncher$Line", "takeRange", "()LLayeredLauncher$Range;"⟩
abbrev b_LL_artifactAt : ByteArray := prog_1_method_18_code
abbrev y_LL_artifactAt : MethodName := ⟨"LayeredLauncher", "artifactAt", "(I)LLayeredLauncher$Artifact;"⟩
abbrev b_DP_init : ByteArray := prog_3_method_1_code
abbrev y_DP_init : MethodName := ⟨"LayeredLauncher$Dependency", "<init>", "(JLLayeredLauncher$Range;Z)V"⟩
abbrev b_AR_addDependency : ByteArray := prog_2_method_2_code
abbrev y_AR_addDependency : MethodName := ⟨"LayeredLauncher$Artifact", "addDependency", "(LLayeredLauncher$Dependency;)V"⟩
abbrev b_LL_depend : ByteArray := prog_1_method_5_code
abbrev y_LL_depend : MethodName := ⟨"LayeredLauncher", "depend", "(IZ)I"⟩
abbrev b_AR_lastDependency : ByteArray := prog_2_method_3_code
abbrev y_AR_lastDependency : MethodName := ⟨"LayeredLauncher$Artifact", "lastDependency", "()LLayeredLauncher$Dependency;"⟩
abbrev b_DP_addExclusion : ByteArray := prog_3_method_2_code
abbrev y_DP_addExclusion : MethodName := ⟨"LayeredLauncher$Dependency", "addExclusion", "(J)V"⟩
abbrev b_LL_exclude : ByteArray := prog_1_method_6_code
abbrev y_LL_exclude : MethodName := ⟨"LayeredLauncher", "exclude", "(I)I"⟩
abbrev b_LL_isClass : ByteArray := prog_1_method_23_code
abbrev y_LL_isClass : MethodName := ⟨"LayeredLauncher", "isClass", "(I)Z"⟩
abbrev b_AR_setClass : ByteArray := prog_2_method_4_code
abbrev y_AR_setClass : MethodName := ⟨"LayeredLauncher$Artifact", "setClass", "(IZ)V"⟩
abbrev b_LL_pack : ByteArray := prog_1_method_7_code
abbrev y_LL_pack : MethodName := ⟨"LayeredLauncher", "pack", "(IIZ)I"⟩
abbrev b_LL_retire : ByteArray := prog_1_method_8_code
abbrev y_LL_retire : MethodName := ⟨"LayeredLauncher", "retire", "(I)I"⟩
abbrev b_LL_compare : ByteArray := prog_1_method_9_code
abbrev y_LL_compare : MethodName := ⟨"LayeredLauncher", "compare", "()I"⟩
abbrev b_EL_begin : ByteArray := prog_4_method_2_code
abbrev y_EL_begin : MethodName := ⟨"LayeredLauncher$EntryList", "begin", "(LLayeredLauncher$Artifact;)V"⟩
abbrev b_DP_excludes : ByteArray := prog_3_method_3_code
abbrev y_DP_excludes : MethodName := ⟨"LayeredLauncher$Dependency", "excludes", "(J)Z"⟩
abbrev b_EL_bars : ByteArray := prog_4_method_5_code
abbrev y_EL_bars : MethodName := ⟨"LayeredLauncher$EntryList", "bars", "(IJ)Z"⟩
abbrev b_EL_artifactNamed : ByteArray := prog_4_method_6_code
abbrev y_EL_artifactNamed : MethodName := ⟨"LayeredLauncher$EntryList", "artifactNamed", "(J)LLayeredLauncher$Artifact;"⟩
abbrev b_EL_add : ByteArray := prog_4_method_3_code
abbrev y_EL_add : MethodName := ⟨"LayeredLauncher$EntryList", "add", "(LLayeredLauncher$Artifact;ILLayeredLauncher$Dependency;)V"⟩
abbrev b_LL_follow : ByteArray := prog_1_method_22_code
abbrev y_LL_follow : MethodName := ⟨"LayeredLauncher", "follow", "(ILLayeredLauncher$Dependency;)I"⟩
abbrev b_LL_fillDraft : ByteArray := prog_1_method_21_code
abbrev y_LL_fillDraft : MethodName := ⟨"LayeredLauncher", "fillDraft", "(LLayeredLauncher$Artifact;)I"⟩
abbrev b_LL_resolve : ByteArray := prog_1_method_10_code
abbrev y_LL_resolve : MethodName := ⟨"LayeredLauncher", "resolve", "()I"⟩
abbrev b_LL_culprit : ByteArray := prog_1_method_11_code
abbrev y_LL_culprit : MethodName := ⟨"LayeredLauncher", "culprit", "()I"⟩
abbrev b_EL_has : ByteArray := prog_4_method_4_code
abbrev y_EL_has : MethodName := ⟨"LayeredLauncher$EntryList", "has", "(I)Z"⟩
abbrev b_LL_entry : ByteArray := prog_1_method_12_code
abbrev y_LL_entry : MethodName := ⟨"LayeredLauncher", "entry", "(I)I"⟩
abbrev b_LL_depth : ByteArray := prog_1_method_13_code
abbrev y_LL_depth : MethodName := ⟨"LayeredLauncher", "depth", "(I)I"⟩
abbrev b_LL_parent : ByteArray := prog_1_method_14_code
abbrev y_LL_parent : MethodName := ⟨"LayeredLauncher", "parent", "(I)I"⟩
abbrev b_AR_hasClass : ByteArray := prog_2_method_5_code
abbrev y_AR_hasClass : MethodName := ⟨"LayeredLauncher$Artifact", "hasClass", "(I)Z"⟩
abbrev b_EL_deepestGiver : ByteArray := prog_4_method_7_code
abbrev y_EL_deepestGiver : MethodName := ⟨"LayeredLauncher$EntryList", "deepestGiver", "(II)I"⟩
abbrev b_LL_find : ByteArray := prog_1_method_15_code
abbrev y_LL_find : MethodName := ⟨"LayeredLauncher", "find", "(II)I"⟩
abbrev b_LL_text : ByteArray := prog_1_method_16_code
abbrev y_LL_text : MethodName := ⟨"LayeredLauncher", "text", "(II)I"⟩
abbrev b_LL_retiredArtifacts : ByteArray := prog_1_method_19_code
abbrev y_LL_retiredArtifacts : MethodName := ⟨"LayeredLauncher", "retiredArtifacts", "()I"⟩
abbrev b_JM_max : ByteArray := prog_11_method_65_code
abbrev y_JM_max : MethodName := ⟨"java/lang/Math", "max", "(II)I"⟩
abbrev b_EL_greatestDepth : ByteArray := prog_4_method_8_code
abbrev y_EL_greatestDepth : MethodName := ⟨"LayeredLauncher$EntryList", "greatestDepth", "()I"⟩
abbrev b_JI_bitCount : ByteArray := prog_10_method_49_code
abbrev y_JI_bitCount : MethodName := ⟨"java/lang/Integer", "bitCount", "(I)I"⟩
abbrev b_EL_sharedClasses : ByteArray := prog_4_method_9_code
abbrev y_EL_sharedClasses : MethodName := ⟨"LayeredLauncher$EntryList", "sharedClasses", "()I"⟩
abbrev b_LL_count : ByteArray := prog_1_method_17_code
abbrev y_LL_count : MethodName := ⟨"LayeredLauncher", "count", "(I)I"⟩
abbrev b_MD_init : ByteArray := prog_9_method_1_code
abbrev y_MD_init : MethodName := ⟨"LayeredLauncherModel", "<init>", "()V"⟩
abbrev b_MD_type : ByteArray := prog_9_method_2_code
abbrev y_MD_type : MethodName := ⟨"LayeredLauncherModel", "type", "(I)I"⟩
abbrev b_MD_wipe : ByteArray := prog_9_method_3_code
abbrev y_MD_wipe : MethodName := ⟨"LayeredLauncherModel", "wipe", "()I"⟩
abbrev b_MD_take : ByteArray := prog_9_method_4_code
abbrev y_MD_take : MethodName := ⟨"LayeredLauncherModel", "take", "()V"⟩
abbrev b_MD_takeDependency : ByteArray := prog_9_method_5_code
abbrev y_MD_takeDependency : MethodName := ⟨"LayeredLauncherModel", "takeDependency", "(I)V"⟩
abbrev b_MD_colonAt : ByteArray := prog_9_method_6_code
abbrev y_MD_colonAt : MethodName := ⟨"LayeredLauncherModel", "colonAt", "()I"⟩
abbrev b_MD_isName : ByteArray := prog_9_method_7_code
abbrev y_MD_isName : MethodName := ⟨"LayeredLauncherModel", "isName", "(II)Z"⟩
abbrev b_MD_isDigit : ByteArray := prog_9_method_8_code
abbrev y_MD_isDigit : MethodName := ⟨"LayeredLauncherModel", "isDigit", "(I)Z"⟩
abbrev b_MD_isMark : ByteArray := prog_9_method_9_code
abbrev y_MD_isMark : MethodName := ⟨"LayeredLauncherModel", "isMark", "(I)Z"⟩
abbrev b_MD_isVersion : ByteArray := prog_9_method_10_code
abbrev y_MD_isVersion : MethodName := ⟨"LayeredLauncherModel", "isVersion", "(II)Z"⟩
abbrev b_MD_commaIn : ByteArray := prog_9_method_11_code
abbrev y_MD_commaIn : MethodName := ⟨"LayeredLauncherModel", "commaIn", "(II)I"⟩
abbrev b_MD_isRange : ByteArray := prog_9_method_12_code
abbrev y_MD_isRange : MethodName := ⟨"LayeredLauncherModel", "isRange", "(II)Z"⟩
abbrev b_MD_part : ByteArray := prog_9_method_13_code
abbrev y_MD_part : MethodName := ⟨"LayeredLauncherModel", "part", "(ZI)I"⟩
abbrev b_MD_number : ByteArray := prog_9_method_14_code
abbrev y_MD_number : MethodName := ⟨"LayeredLauncherModel", "number", "(ZI)J"⟩
abbrev b_MD_orderOfWords : ByteArray := prog_9_method_15_code
abbrev y_MD_orderOfWords : MethodName := ⟨"LayeredLauncherModel", "orderOfWords", "(I)I"⟩
abbrev b_MD_order : ByteArray := prog_9_method_16_code
abbrev y_MD_order : MethodName := ⟨"LayeredLauncherModel", "order", "()I"⟩
abbrev b_MD_firstIs : ByteArray := prog_9_method_17_code
abbrev y_MD_firstIs : MethodName := ⟨"LayeredLauncherModel", "firstIs", "(I)V"⟩
abbrev b_MD_secondIs : ByteArray := prog_9_method_18_code
abbrev y_MD_secondIs : MethodName := ⟨"LayeredLauncherModel", "secondIs", "(II)V"⟩
abbrev b_MD_orderTo : ByteArray := prog_9_method_19_code
abbrev y_MD_orderTo : MethodName := ⟨"LayeredLauncherModel", "orderTo", "(III)I"⟩
abbrev b_MD_holds : ByteArray := prog_9_method_20_code
abbrev y_MD_holds : MethodName := ⟨"LayeredLauncherModel", "holds", "(II)Z"⟩
abbrev b_MD_hasName : ByteArray := prog_9_method_21_code
abbrev y_MD_hasName : MethodName := ⟨"LayeredLauncherModel", "hasName", "(II)Z"⟩
abbrev b_MD_isAbove : ByteArray := prog_9_method_23_code
abbrev y_MD_isAbove : MethodName := ⟨"LayeredLauncherModel", "isAbove", "(II)Z"⟩
abbrev b_MD_pick : ByteArray := prog_9_method_22_code
abbrev y_MD_pick : MethodName := ⟨"LayeredLauncherModel", "pick", "()I"⟩
abbrev b_MD_publish : ByteArray := prog_9_method_24_code
abbrev y_MD_publish : MethodName := ⟨"LayeredLauncherModel", "publish", "()I"⟩
abbrev b_MD_none : ByteArray := prog_9_method_25_code
abbrev y_MD_none : MethodName := ⟨"LayeredLauncherModel", "none", "(I)Z"⟩
abbrev b_MD_depend : ByteArray := prog_9_method_26_code
abbrev y_MD_depend : MethodName := ⟨"LayeredLauncherModel", "depend", "(IZ)I"⟩
abbrev b_MD_exclude : ByteArray := prog_9_method_27_code
abbrev y_MD_exclude : MethodName := ⟨"LayeredLauncherModel", "exclude", "(I)I"⟩
abbrev b_MD_pack : ByteArray := prog_9_method_28_code
abbrev y_MD_pack : MethodName := ⟨"LayeredLauncherModel", "pack", "(IIZ)I"⟩
abbrev b_MD_retire : ByteArray := prog_9_method_29_code
abbrev y_MD_retire : MethodName := ⟨"LayeredLauncherModel", "retire", "(I)I"⟩
abbrev b_MD_compare : ByteArray := prog_9_method_30_code
abbrev y_MD_compare : MethodName := ⟨"LayeredLauncherModel", "compare", "()I"⟩
abbrev b_MD_excluded : ByteArray := prog_9_method_31_code
abbrev y_MD_excluded : MethodName := ⟨"LayeredLauncherModel", "excluded", "(II)Z"⟩
abbrev b_MD_barred : ByteArray := prog_9_method_32_code
abbrev y_MD_barred : MethodName := ⟨"LayeredLauncherModel", "barred", "(II)Z"⟩
abbrev b_MD_add : ByteArray := prog_9_method_33_code
abbrev y_MD_add : MethodName := ⟨"LayeredLauncherModel", "add", "(IIII)V"⟩
abbrev b_MD_need : ByteArray := prog_9_method_34_code
abbrev y_MD_need : MethodName := ⟨"LayeredLauncherModel", "need", "(II)I"⟩
abbrev b_MD_resolve : ByteArray := prog_9_method_35_code
abbrev y_MD_resolve : MethodName := ⟨"LayeredLauncherModel", "resolve", "()I"⟩
abbrev b_MD_culprit : ByteArray := prog_9_method_36_code
abbrev y_MD_culprit : MethodName := ⟨"LayeredLauncherModel", "culprit", "()I"⟩
abbrev b_MD_entry : ByteArray := prog_9_method_37_code
abbrev y_MD_entry : MethodName := ⟨"LayeredLauncherModel", "entry", "(I)I"⟩
abbrev b_MD_depth : ByteArray := prog_9_method_38_code
abbrev y_MD_depth : MethodName := ⟨"LayeredLauncherModel", "depth", "(I)I"⟩
abbrev b_MD_parent : ByteArray := prog_9_method_39_code
abbrev y_MD_parent : MethodName := ⟨"LayeredLauncherModel", "parent", "(I)I"⟩
abbrev b_MD_find : ByteArray := prog_9_method_40_code
abbrev y_MD_find : MethodName := ⟨"LayeredLauncherModel", "find", "(II)I"⟩
abbrev b_MD_text : ByteArray := prog_9_method_41_code
abbrev y_MD_text : MethodName := ⟨"LayeredLauncherModel", "text", "(II)I"⟩
abbrev b_MD_holders : ByteArray := prog_9_method_43_code
abbrev y_MD_holders : MethodName := ⟨"LayeredLauncherModel", "holders", "(I)I"⟩
abbrev b_MD_count : ByteArray := prog_9_method_42_code
abbrev y_MD_count : MethodName := ⟨"LayeredLauncherModel", "count", "(I)I"⟩
theorem g0 : (Jvm.Cond.selects "LayeredLauncher$Line" (⟨"LayeredLauncher$Line", "isVersion", "(II)Z"⟩ : MethodName) (⟨"LayeredLauncher$Line", "isVersion", "(II)Z"⟩ : MethodName)) ∈ gt := List.mem_filter.mpr ⟨List.mem_of_getElem? (i := 0) (by decide +kernel), by decide +kernel⟩
theorem g1 : (Jvm.Cond.selects "LayeredLauncher" (⟨"LayeredLauncher", "pickFor", "(JLLayeredLauncher$Range;)LLayeredLauncher$Artifact;"⟩ : MethodName) (⟨"LayeredLauncher", "pickFor", "(JLLayeredLauncher$Range;)LLayeredLauncher$Artifact;"⟩ : MethodName)) ∈ gt := List.mem_filter.mpr ⟨List.mem_of_getElem? (i := 1) (by decide +kernel), by decide +kernel⟩
theorem g2 : (Jvm.Cond.selects "LayeredLauncher$Range" (⟨"LayeredLauncher$Range", "keepsLow", "(LLayeredLauncher$Version;)Z"⟩ : MethodName) (⟨"LayeredLauncher$Range", "keepsLow", "(LLayeredLauncher$Version;)Z"⟩ : MethodName)) ∈ gt := List.mem_filter.mpr ⟨List.mem_of_getElem? (i := 2) (by decide +kernel), by decide +kernel⟩
theorem g3 : (Jvm.Cond.selects "LayeredLauncher$Range" (⟨"LayeredLauncher$Range", "keepsHigh", "(LLayeredLauncher$Version;)Z"⟩ : MethodName) (⟨"LayeredLauncher$Range", "keepsHigh", "(LLayeredLauncher$Version;)Z"⟩ : MethodName)) ∈ gt := List.mem_filter.mpr ⟨List.mem_of_getElem? (i := 3) (by decide +kernel), by decide +kernel⟩
theorem g4 : (Jvm.Cond.selects "LayeredLauncher$Line" (⟨"LayeredLauncher$Line", "takeRestOfRange", "(LLayeredLauncher$Version;Z)LLayeredLauncher$Range;"⟩ : MethodName) (⟨"LayeredLauncher$Line", "takeRestOfRange", "(LLayeredLauncher$Version;Z)LLayeredLauncher$Range;"⟩ : MethodName)) ∈ gt := List.mem_filter.mpr ⟨List.mem_of_getElem? (i := 4) (by decide +kernel), by decide +kernel⟩
theorem g5 : (Jvm.Cond.selects "LayeredLauncher" (⟨"LayeredLauncher", "artifactAt", "(I)LLayeredLauncher$Artifact;"⟩ : MethodName) (⟨"LayeredLauncher", "artifactAt", "(I)LLayeredLauncher$Artifact;"⟩ : MethodName)) ∈ gt := List.mem_filter.mpr ⟨List.mem_of_getElem? (i := 5) (by decide +kernel), by decide +kernel⟩
theorem g6 : (Jvm.Cond.selects "LayeredLauncher" (⟨"LayeredLauncher", "fillDraft", "(LLayeredLauncher$Artifact;)I"⟩ : MethodName) (⟨"LayeredLauncher", "fillDraft", "(LLayeredLauncher$Artifact;)I"⟩ : MethodName)) ∈ gt := List.mem_filter.mpr ⟨List.mem_of_getElem? (i := 6) (by decide +kernel), by decide +kernel⟩
theorem g7 : (Jvm.Cond.selects "LayeredLauncher" (⟨"LayeredLauncher", "follow", "(ILLayeredLauncher$Dependency;)I"⟩ : MethodName) (⟨"LayeredLauncher", "follow", "(ILLayeredLauncher$Dependency;)I"⟩ : MethodName)) ∈ gt := List.mem_filter.mpr ⟨List.mem_of_getElem? (i := 7) (by decide +kernel), by decide +kernel⟩
theorem g8 : (Jvm.Cond.selects "LayeredLauncher" (⟨"LayeredLauncher", "retiredArtifacts", "()I"⟩ : MethodName) (⟨"LayeredLauncher", "retiredArtifacts", "()I"⟩ : MethodName)) ∈ gt := List.mem_filter.mpr ⟨List.mem_of_getElem? (i := 8) (by decide +kernel), by decide +kernel⟩
theorem g9 : (Jvm.Cond.selects "LayeredLauncherModel" (⟨"LayeredLauncherModel", "take", "()V"⟩ : MethodName) (⟨"LayeredLauncherModel", "take", "()V"⟩ : MethodName)) ∈ gt := List.mem_filter.mpr ⟨List.mem_of_getElem? (i := 9) (by decide +kernel), by decide +kernel⟩
theorem g10 : (Jvm.Cond.selects "LayeredLauncherModel" (⟨"LayeredLauncherModel", "colonAt", "()I"⟩ : MethodName) (⟨"LayeredLauncherModel", "colonAt", "()I"⟩ : MethodName)) ∈ gt := List.mem_filter.mpr ⟨List.mem_of_getElem? (i := 10) (by decide +kernel), by decide +kernel⟩
theorem g11 : (Jvm.Cond.selects "LayeredLauncherModel" (⟨"LayeredLauncherModel", "isName", "(II)Z"⟩ : MethodName) (⟨"LayeredLauncherModel", "isName", "(II)Z"⟩ : MethodName)) ∈ gt := List.mem_filter.mpr ⟨List.mem_of_getElem? (i := 11) (by decide +kernel), by decide +kernel⟩
theorem g12 : (Jvm.Cond.selects "LayeredLauncherModel" (⟨"LayeredLauncherModel", "isVersion", "(II)Z"⟩ : MethodName) (⟨"LayeredLauncherModel", "isVersion", "(II)Z"⟩ : MethodName)) ∈ gt := List.mem_filter.mpr ⟨List.mem_of_getElem? (i := 12) (by decide +kernel), by decide +kernel⟩
theorem g13 : (Jvm.Cond.selects "LayeredLauncherModel" (⟨"LayeredLauncherModel", "isDigit", "(I)Z"⟩ : MethodName) (⟨"LayeredLauncherModel", "isDigit", "(I)Z"⟩ : MethodName)) ∈ gt := List.mem_filter.mpr ⟨List.mem_of_getElem? (i := 13) (by decide +kernel), by decide +kernel⟩
theorem g14 : (Jvm.Cond.selects "LayeredLauncherModel" (⟨"LayeredLauncherModel", "isMark", "(I)Z"⟩ : MethodName) (⟨"LayeredLauncherModel", "isMark", "(I)Z"⟩ : MethodName)) ∈ gt := List.mem_filter.mpr ⟨List.mem_of_getElem? (i := 14) (by decide +kernel), by decide +kernel⟩
theorem g15 : (Jvm.Cond.selects "LayeredLauncherModel" (⟨"LayeredLauncherModel", "hasName", "(II)Z"⟩ : MethodName) (⟨"LayeredLauncherModel", "hasName", "(II)Z"⟩ : MethodName)) ∈ gt := List.mem_filter.mpr ⟨List.mem_of_getElem? (i := 15) (by decide +kernel), by decide +kernel⟩
theorem g16 : (Jvm.Cond.selects "LayeredLauncherModel" (⟨"LayeredLauncherModel", "orderTo", "(III)I"⟩ : MethodName) (⟨"LayeredLauncherModel", "orderTo", "(III)I"⟩ : MethodName)) ∈ gt := List.mem_filter.mpr ⟨List.mem_of_getElem? (i := 16) (by decide +kernel), by decide +kernel⟩
theorem g17 : (Jvm.Cond.selects "LayeredLauncherModel" (⟨"LayeredLauncherModel", "firstIs", "(I)V"⟩ : MethodName) (⟨"LayeredLauncherModel", "firstIs", "(I)V"⟩ : MethodName)) ∈ gt := List.mem_filter.mpr ⟨List.mem_of_getElem? (i := 17) (by decide +kernel), by decide +kernel⟩
theorem g18 : (Jvm.Cond.selects "LayeredLauncherModel" (⟨"LayeredLauncherModel", "secondIs", "(II)V"⟩ : MethodName) (⟨"LayeredLauncherModel", "secondIs", "(II)V"⟩ : MethodName)) ∈ gt := List.mem_filter.mpr ⟨List.mem_of_getElem? (i := 18) (by decide +kernel), by decide +kernel⟩
theorem g19 : (Jvm.Cond.selects "LayeredLauncherModel" (⟨"LayeredLauncherModel", "order", "()I"⟩ : MethodName) (⟨"LayeredLauncherModel", "order", "()I"⟩ : MethodName)) ∈ gt := List.mem_filter.mpr ⟨List.mem_of_getElem? (i := 19) (by decide +kernel), by decide +kernel⟩
theorem g20 : (Jvm.Cond.selects "LayeredLauncherModel" (⟨"LayeredLauncherModel", "number", "(ZI)J"⟩ : MethodName) (⟨"LayeredLauncherModel", "number", "(ZI)J"⟩ : MethodName)) ∈ gt := List.mem_filter.mpr ⟨List.mem_of_getElem? (i := 20) (by decide +kernel), by decide +kernel⟩
theorem g21 : (Jvm.Cond.selects "LayeredLauncherModel" (⟨"LayeredLauncherModel", "part", "(ZI)I"⟩ : MethodName) (⟨"LayeredLauncherModel", "part", "(ZI)I"⟩ : MethodName)) ∈ gt := List.mem_filter.mpr ⟨List.mem_of_getElem? (i := 21) (by decide +kernel), by decide +kernel⟩
theorem g22 : (Jvm.Cond.selects "LayeredLauncherModel" (⟨"LayeredLauncherModel", "orderOfWords", "(I)I"⟩ : MethodName) (⟨"LayeredLauncherModel", "orderOfWords", "(I)I"⟩ : MethodName)) ∈ gt := List.mem_filter.mpr ⟨List.mem_of_getElem? (i := 22) (by decide +kernel), by decide +kernel⟩
theorem g23 : (Jvm.Cond.selects "LayeredLauncherModel" (⟨"LayeredLauncherModel", "none", "(I)Z"⟩ : MethodName) (⟨"LayeredLauncherModel", "none", "(I)Z"⟩ : MethodName)) ∈ gt := List.mem_filter.mpr ⟨List.mem_of_getElem? (i := 23) (by decide +kernel), by decide +kernel⟩
theorem g24 : (Jvm.Cond.selects "LayeredLauncherModel" (⟨"LayeredLauncherModel", "isRange", "(II)Z"⟩ : MethodName) (⟨"LayeredLauncherModel", "isRange", "(II)Z"⟩ : MethodName)) ∈ gt := List.mem_filter.mpr ⟨List.mem_of_getElem? (i := 24) (by decide +kernel), by decide +kernel⟩
theorem g25 : (Jvm.Cond.selects "LayeredLauncherModel" (⟨"LayeredLauncherModel", "commaIn", "(II)I"⟩ : MethodName) (⟨"LayeredLauncherModel", "commaIn", "(II)I"⟩ : MethodName)) ∈ gt := List.mem_filter.mpr ⟨List.mem_of_getElem? (i := 25) (by decide +kernel), by decide +kernel⟩
theorem g26 : (Jvm.Cond.selects "LayeredLauncherModel" (⟨"LayeredLauncherModel", "pick", "()I"⟩ : MethodName) (⟨"LayeredLauncherModel", "pick", "()I"⟩ : MethodName)) ∈ gt := List.mem_filter.mpr ⟨List.mem_of_getElem? (i := 26) (by decide +kernel), by decide +kernel⟩
theorem g27 : (Jvm.Cond.selects "LayeredLauncherModel" (⟨"LayeredLauncherModel", "holds", "(II)Z"⟩ : MethodName) (⟨"LayeredLauncherModel", "holds", "(II)Z"⟩ : MethodName)) ∈ gt := List.mem_filter.mpr ⟨List.mem_of_getElem? (i := 27) (by decide +kernel), by decide +kernel⟩
theorem g28 : (Jvm.Cond.selects "LayeredLauncherModel" (⟨"LayeredLauncherModel", "isAbove", "(II)Z"⟩ : MethodName) (⟨"LayeredLauncherModel", "isAbove", "(II)Z"⟩ : MethodName)) ∈ gt := List.mem_filter.mpr ⟨List.mem_of_getElem? (i := 28) (by decide +kernel), by decide +kernel⟩
theorem g29 : (Jvm.Cond.selects "LayeredLauncherModel" (⟨"LayeredLauncherModel", "add", "(IIII)V"⟩ : MethodName) (⟨"LayeredLauncherModel", "add", "(IIII)V"⟩ : MethodName)) ∈ gt := List.mem_filter.mpr ⟨List.mem_of_getElem? (i := 29) (by decide +kernel), by decide +kernel⟩
theorem g30 : (Jvm.Cond.selects "LayeredLauncherModel" (⟨"LayeredLauncherModel", "need", "(II)I"⟩ : MethodName) (⟨"LayeredLauncherModel", "need", "(II)I"⟩ : MethodName)) ∈ gt := List.mem_filter.mpr ⟨List.mem_of_getElem? (i := 30) (by decide +kernel), by decide +kernel⟩
theorem g31 : (Jvm.Cond.selects "LayeredLauncherModel" (⟨"LayeredLauncherModel", "takeDependency", "(I)V"⟩ : MethodName) (⟨"LayeredLauncherModel", "takeDependency", "(I)V"⟩ : MethodName)) ∈ gt := List.mem_filter.mpr ⟨List.mem_of_getElem? (i := 31) (by decide +kernel), by decide +kernel⟩
theorem g32 : (Jvm.Cond.selects "LayeredLauncherModel" (⟨"LayeredLauncherModel", "barred", "(II)Z"⟩ : MethodName) (⟨"LayeredLauncherModel", "barred", "(II)Z"⟩ : MethodName)) ∈ gt := List.mem_filter.mpr ⟨List.mem_of_getElem? (i := 32) (by decide +kernel), by decide +kernel⟩
theorem g33 : (Jvm.Cond.selects "LayeredLauncherModel" (⟨"LayeredLauncherModel", "excluded", "(II)Z"⟩ : MethodName) (⟨"LayeredLauncherModel", "excluded", "(II)Z"⟩ : MethodName)) ∈ gt := List.mem_filter.mpr ⟨List.mem_of_getElem? (i := 33) (by decide +kernel), by decide +kernel⟩
theorem g34 : (Jvm.Cond.selects "LayeredLauncherModel" (⟨"LayeredLauncherModel", "holders", "(I)I"⟩ : MethodName) (⟨"LayeredLauncherModel", "holders", "(I)I"⟩ : MethodName)) ∈ gt := List.mem_filter.mpr ⟨List.mem_of_getElem? (i := 34) (by decide +kernel), by decide +kernel⟩
theorem g36 : (Jvm.Cond.initialized "LayeredLauncher") ∈ gt := List.mem_filter.mpr ⟨List.mem_of_getElem? (i := 36) (by decide +kernel), by decide +kernel⟩
theorem g37 : (Jvm.Cond.initialized "LayeredLauncher$Line") ∈ gt := List.mem_filter.mpr ⟨List.mem_of_getElem? (i := 37) (by decide +kernel), by decide +kernel⟩
theorem g38 : (Jvm.Cond.initialized "LayeredLauncher$EntryList") ∈ gt := List.mem_filter.mpr ⟨List.mem_of_getElem? (i := 38) (by decide +kernel), by decide +kernel⟩
theorem g39 : (Jvm.Cond.initialized "LayeredLauncherModel") ∈ gt := List.mem_filter.mpr ⟨List.mem_of_getElem? (i := 39) (by decide +kernel), by decide +kernel⟩
theorem g40 : (Jvm.Cond.initialized "java/lang/Math") ∈ gt := List.mem_filter.mpr ⟨List.mem_of_getElem? (i := 40) (by decide +kernel), by decide +kernel⟩
theorem g41 : (Jvm.Cond.initialized "LayeredLauncher$Version") ∈ gt := List.mem_filter.mpr ⟨List.mem_of_getElem? (i := 41) (by decide +kernel), by decide +kernel⟩
theorem g42 : (Jvm.Cond.initialized "java/lang/System") ∈ gt := List.mem_filter.mpr ⟨List.mem_of_getElem? (i := 42) (by decide +kernel), by decide +kernel⟩
theorem g43 : (Jvm.Cond.initialized "LayeredLauncher$Range") ∈ gt := List.mem_filter.mpr ⟨List.mem_of_getElem? (i := 43) (by decide +kernel), by decide +kernel⟩
theorem g44 : (Jvm.Cond.initialized "LayeredLauncher$Artifact") ∈ gt := List.mem_filter.mpr ⟨List.mem_of_getElem? (i := 44) (by decide +kernel), by decide +kernel⟩
theorem g45 : (Jvm.Cond.initialized "LayeredLauncher$Dependency") ∈ gt := List.mem_filter.mpr ⟨List.mem_of_getElem? (i := 45) (by decide +kernel), by decide +kernel⟩
theorem g46 : (Jvm.Cond.initialized "java/lang/Integer") ∈ gt := List.mem_filter.mpr ⟨List.mem_of_getElem? (i := 46) (by decide +kernel), by decide +kernel⟩
theorem g52 : (Jvm.Cond.methodLink "LayeredLauncher" (1 : Nat) ({ cls := "java/lang/Object", name := "<init>", desc := "()V" } : Jvm.MethodName)) ∈ gt := List.mem_filter.mpr ⟨List.mem_of_getElem? (i := 52) (by decide +kernel), by decide +kernel⟩
theorem g53 : (Jvm.Cond.instanceMethod ({ cls := "java/lang/Object", name := "<init>", desc := "()V" } : Jvm.MethodName)) ∈ gt := List.mem_filter.mpr ⟨List.mem_of_getElem? (i := 53) (by decide +kernel), by decide +kernel⟩
theorem g54 : (Jvm.Cond.code ({ cls := "java/lang/Object", name := "<init>", desc := "()V" } : Jvm.MethodName) object_method_1_code (1 : Nat) (Option.none : Option Jvm.ClassFile.FieldType)) ∈ gt := List.mem_filter.mpr ⟨List.mem_of_getElem? (i := 54) (by decide +kernel), by decide +kernel⟩
theorem g55 : (Jvm.Cond.classLink "LayeredLauncher" (7 : Nat) "LayeredLauncher$Line") ∈ gt := List.mem_filter.mpr ⟨List.mem_of_getElem? (i := 55) (by decide +kernel), by decide +kernel⟩
theorem g56 : (Jvm.Cond.instantiable "LayeredLauncher$Line" (3 : Nat)) ∈ gt := List.mem_filter.mpr ⟨List.mem_of_getElem? (i := 56) (by decide +kernel), by decide +kernel⟩
theorem g58 : (Jvm.Cond.instanceMethod ({ cls := "LayeredLauncher$Line", name := "<init>", desc := "()V" } : Jvm.MethodName)) ∈ gt := List.mem_filter.mpr ⟨List.mem_of_getElem? (i := 58) (by decide +kernel), by decide +kernel⟩
theorem g59 : (Jvm.Cond.code ({ cls := "LayeredLauncher$Line", name := "<init>", desc := "()V" } : Jvm.MethodName) prog_5_method_1_code (1 : Nat) (Option.none : Option Jvm.ClassFile.FieldType)) ∈ gt := List.mem_filter.mpr ⟨List.mem_of_getElem? (i := 59) (by decide +kernel), by decide +kernel⟩
theorem g60 : (Jvm.Cond.methodLink "LayeredLauncher$Line" (3 : Nat) ({ cls := "java/lang/Object", name := "<init>", desc := "()V" } : Jvm.MethodName)) ∈ gt := List.mem_filter.mpr ⟨List.mem_of_getElem? (i := 60) (by decide +kernel), by decide +kernel⟩
theorem g61 : (Jvm.Cond.fieldLink "LayeredLauncher$Line" (9 : Nat) "LayeredLauncher$Line" "characters" "[C") ∈ gt := List.mem_filter.mpr ⟨List.mem_of_getElem? (i := 61) (by decide +kernel), by decide +kernel⟩
theorem g62 : (Jvm.Cond.fieldLink "LayeredLauncher$Line" (15 : Nat) "LayeredLauncher$Line" "length" "I") ∈ gt := List.mem_filter.mpr ⟨List.mem_of_getElem? (i := 62) (by decide +kernel), by decide +kernel⟩
theorem g63 : (Jvm.Cond.fieldLink "LayeredLauncher" (39 : Nat) "LayeredLauncher$Line" "length" "I") ∈ gt := List.mem_filter.mpr ⟨List.mem_of_getElem? (i := 63) (by decide +kernel), by decide +kernel⟩
theorem g64 : (Jvm.Cond.fieldLink "LayeredLauncher$Line" (19 : Nat) "LayeredLauncher$Line" "at" "I") ∈ gt := List.mem_filter.mpr ⟨List.mem_of_getElem? (i := 64) (by decide +kernel), by decide +kernel⟩
theorem g72 : (Jvm.Cond.arrayClass Jvm.ClassFile.FieldType.char) ∈ gt := List.mem_filter.mpr ⟨List.mem_of_getElem? (i := 72) (by decide +kernel), by decide +kernel⟩
theorem g73 : (Jvm.Cond.classLink "LayeredLauncher" (16 : Nat) "LayeredLauncher$Artifact") ∈ gt := List.mem_filter.mpr ⟨List.mem_of_getElem? (i := 73) (by decide +kernel), by decide +kernel⟩
theorem g75 : (Jvm.Cond.classLink "LayeredLauncher" (26 : Nat) "LayeredLauncher$EntryList") ∈ gt := List.mem_filter.mpr ⟨List.mem_of_getElem? (i := 75) (by decide +kernel), by decide +kernel⟩
theorem g76 : (Jvm.Cond.instantiable "LayeredLauncher$EntryList" (5 : Nat)) ∈ gt := List.mem_filter.mpr ⟨List.mem_of_getElem? (i := 76) (by decide +kernel), by decide +kernel⟩
theorem g78 : (Jvm.Cond.instanceMethod ({ cls := "LayeredLauncher$EntryList", name := "<init>", desc := "()V" } : Jvm.MethodName)) ∈ gt := List.mem_filter.mpr ⟨List.mem_of_getElem? (i := 78) (by decide +kernel), by decide +kernel⟩
theorem g79 : (Jvm.Cond.code ({ cls := "LayeredLauncher$EntryList", name := "<init>", desc := "()V" } : Jvm.MethodName) prog_4_method_1_code (1 : Nat) (Option.none : Option Jvm.ClassFile.FieldType)) ∈ gt := List.mem_filter.mpr ⟨List.mem_of_getElem? (i := 79) (by decide +kernel), by decide +kernel⟩
theorem g80 : (Jvm.Cond.methodLink "LayeredLauncher$EntryList" (3 : Nat) ({ cls := "java/lang/Object", name := "<init>", desc := "()V" } : Jvm.MethodName)) ∈ gt := List.mem_filter.mpr ⟨List.mem_of_getElem? (i := 80) (by decide +kernel), by decide +kernel⟩
theorem g81 : (Jvm.Cond.classLink "LayeredLauncher$EntryList" (9 : Nat) "LayeredLauncher$Artifact") ∈ gt := List.mem_filter.mpr ⟨List.mem_of_getElem? (i := 81) (by decide +kernel), by decide +kernel⟩
theorem g82 : (Jvm.Cond.classLink "LayeredLauncher$EntryList" (24 : Nat) "LayeredLauncher$Dependency") ∈ gt := List.mem_filter.mpr ⟨List.mem_of_getElem? (i := 82) (by decide +kernel), by decide +kernel⟩
theorem g84 : (Jvm.Cond.fieldLink "LayeredLauncher$EntryList" (11 : Nat) "LayeredLauncher$EntryList" "artifacts" "[LLayeredLauncher$Artifact;") ∈ gt := List.mem_filter.mpr ⟨List.mem_of_getElem? (i := 84) (by decide +kernel), by decide +kernel⟩
theorem g85 : (Jvm.Cond.fieldLink "LayeredLauncher" (144 : Nat) "LayeredLauncher$EntryList" "artifacts" "[LLayeredLauncher$Artifact;") ∈ gt := List.mem_filter.mpr ⟨List.mem_of_getElem? (i := 85) (by decide +kernel), by decide +kernel⟩
theorem g86 : (Jvm.Cond.fieldLink "LayeredLauncher$EntryList" (17 : Nat) "LayeredLauncher$EntryList" "depths" "[I") ∈ gt := List.mem_filter.mpr ⟨List.mem_of_getElem? (i := 86) (by decide +kernel), by decide +kernel⟩
theorem g87 : (Jvm.Cond.fieldLink "LayeredLauncher" (148 : Nat) "LayeredLauncher$EntryList" "depths" "[I") ∈ gt := List.mem_filter.mpr ⟨List.mem_of_getElem? (i := 87) (by decide +kernel), by decide +kernel⟩
theorem g88 : (Jvm.Cond.fieldLink "LayeredLauncher$EntryList" (21 : Nat) "LayeredLauncher$EntryList" "parents" "[I") ∈ gt := List.mem_filter.mpr ⟨List.mem_of_getElem? (i := 88) (by decide +kernel), by decide +kernel⟩
theorem g89 : (Jvm.Cond.fieldLink "LayeredLauncher" (152 : Nat) "LayeredLauncher$EntryList" "parents" "[I") ∈ gt := List.mem_filter.mpr ⟨List.mem_of_getElem? (i := 89) (by decide +kernel), by decide +kernel⟩
theorem g90 : (Jvm.Cond.fieldLink "LayeredLauncher$EntryList" (26 : Nat) "LayeredLauncher$EntryList" "reasons" "[LLayeredLauncher$Dependency;") ∈ gt := List.mem_filter.mpr ⟨List.mem_of_getElem? (i := 90) (by decide +kernel), by decide +kernel⟩
theorem g91 : (Jvm.Cond.fieldLink "LayeredLauncher$EntryList" (30 : Nat) "LayeredLauncher$EntryList" "size" "I") ∈ gt := List.mem_filter.mpr ⟨List.mem_of_getElem? (i := 91) (by decide +kernel), by decide +kernel⟩
theorem g92 : (Jvm.Cond.fieldLink "LayeredLauncher" (138 : Nat) "LayeredLauncher$EntryList" "size" "I") ∈ gt := List.mem_filter.mpr ⟨List.mem_of_getElem? (i := 92) (by decide +kernel), by decide +kernel⟩
theorem g104 : (Jvm.Cond.arrayClass Jvm.ClassFile.FieldType.int) ∈ gt := List.mem_filter.mpr ⟨List.mem_of_getElem? (i := 104) (by decide +kernel), by decide +kernel⟩
theorem g105 : (Jvm.Cond.fieldLink "LayeredLauncher" (10 : Nat) "LayeredLauncher" "line" "LLayeredLauncher$Line;") ∈ gt := List.mem_filter.mpr ⟨List.mem_of_getElem? (i := 105) (by decide +kernel), by decide +kernel⟩
theorem g106 : (Jvm.Cond.fieldLink "LayeredLauncher" (18 : Nat) "LayeredLauncher" "artifacts" "[LLayeredLauncher$Artifact;") ∈ gt := List.mem_filter.mpr ⟨List.mem_of_getElem? (i := 106) (by decide +kernel), by decide +kernel⟩
theorem g107 : (Jvm.Cond.fieldLink "LayeredLauncher" (22 : Nat) "LayeredLauncher" "artifactCount" "I") ∈ gt := List.mem_filter.mpr ⟨List.mem_of_getElem? (i := 107) (by decide +kernel), by decide +kernel⟩
theorem g108 : (Jvm.Cond.fieldLink "LayeredLauncher" (29 : Nat) "LayeredLauncher" "result" "LLayeredLauncher$EntryList;") ∈ gt := List.mem_filter.mpr ⟨List.mem_of_getElem? (i := 108) (by decide +kernel), by decide +kernel⟩
theorem g109 : (Jvm.Cond.fieldLink "LayeredLauncher" (33 : Nat) "LayeredLauncher" "draft" "LLayeredLauncher$EntryList;") ∈ gt := List.mem_filter.mpr ⟨List.mem_of_getElem? (i := 109) (by decide +kernel), by decide +kernel⟩
theorem g110 : (Jvm.Cond.fieldLink "LayeredLauncher" (36 : Nat) "LayeredLauncher" "lastCulprit" "I") ∈ gt := List.mem_filter.mpr ⟨List.mem_of_getElem? (i := 110) (by decide +kernel), by decide +kernel⟩
theorem g128 : (Jvm.Cond.methodLink "LayeredLauncher" (42 : Nat) ({ cls := "LayeredLauncher$Line", name := "append", desc := "(C)V" } : Jvm.MethodName)) ∈ gt := List.mem_filter.mpr ⟨List.mem_of_getElem? (i := 128) (by decide +kernel), by decide +kernel⟩
theorem g129 : (Jvm.Cond.instanceMethod ({ cls := "LayeredLauncher$Line", name := "append", desc := "(C)V" } : Jvm.MethodName)) ∈ gt := List.mem_filter.mpr ⟨List.mem_of_getElem? (i := 129) (by decide +kernel), by decide +kernel⟩
theorem g130 : (Jvm.Cond.selects "LayeredLauncher$Line" ({ cls := "LayeredLauncher$Line", name := "append", desc := "(C)V" } : Jvm.MethodName) ({ cls := "LayeredLauncher$Line", name := "append", desc := "(C)V" } : Jvm.MethodName)) ∈ gt := List.mem_filter.mpr ⟨List.mem_of_getElem? (i := 130) (by decide +kernel), by decide +kernel⟩
theorem g131 : (Jvm.Cond.code ({ cls := "LayeredLauncher$Line", name := "append", desc := "(C)V" } : Jvm.MethodName) prog_5_method_2_code (2 : Nat) (Option.none : Option Jvm.ClassFile.FieldType)) ∈ gt := List.mem_filter.mpr ⟨List.mem_of_getElem? (i := 131) (by decide +kernel), by decide +kernel⟩
theorem g136 : (Jvm.Cond.methodLink "LayeredLauncher" (46 : Nat) ({ cls := "LayeredLauncher$Line", name := "clear", desc := "()V" } : Jvm.MethodName)) ∈ gt := List.mem_filter.mpr ⟨List.mem_of_getElem? (i := 136) (by decide +kernel), by decide +kernel⟩
theorem g137 : (Jvm.Cond.instanceMethod ({ cls := "LayeredLauncher$Line", name := "clear", desc := "()V" } : Jvm.MethodName)) ∈ gt := List.mem_filter.mpr ⟨List.mem_of_getElem? (i := 137) (by decide +kernel), by decide +kernel⟩
theorem g138 : (Jvm.Cond.selects "LayeredLauncher$Line" ({ cls := "LayeredLauncher$Line", name := "clear", desc := "()V" } : Jvm.MethodName) ({ cls := "LayeredLauncher$Line", name := "clear", desc := "()V" } : Jvm.MethodName)) ∈ gt := List.mem_filter.mpr ⟨List.mem_of_getElem? (i := 138) (by decide +kernel), by decide +kernel⟩
theorem g139 : (Jvm.Cond.code ({ cls := "LayeredLauncher$Line", name := "clear", desc := "()V" } : Jvm.MethodName) prog_5_method_3_code (1 : Nat) (Option.none : Option Jvm.ClassFile.FieldType)) ∈ gt := List.mem_filter.mpr ⟨List.mem_of_getElem? (i := 139) (by decide +kernel), by decide +kernel⟩
theorem g144 : (Jvm.Cond.methodLink "LayeredLauncher" (49 : Nat) ({ cls := "LayeredLauncher$Line", name := "takeNameAndColon", desc := "()J" } : Jvm.MethodName)) ∈ gt := List.mem_filter.mpr ⟨List.mem_of_getElem? (i := 144) (by decide +kernel), by decide +kernel⟩
theorem g145 : (Jvm.Cond.instanceMethod ({ cls := "LayeredLauncher$Line", name := "takeNameAndColon", desc := "()J" } : Jvm.MethodName)) ∈ gt := List.mem_filter.mpr ⟨List.mem_of_getElem? (i := 145) (by decide +kernel), by decide +kernel⟩
theorem g146 : (Jvm.Cond.selects "LayeredLauncher$Line" ({ cls := "LayeredLauncher$Line", name := "takeNameAndColon", desc := "()J" } : Jvm.MethodName) ({ cls := "LayeredLauncher$Line", name := "takeNameAndColon", desc := "()J" } : Jvm.MethodName)) ∈ gt := List.mem_filter.mpr ⟨List.mem_of_getElem? (i := 146) (by decide +kernel), by decide +kernel⟩
theorem g147 : (Jvm.Cond.code ({ cls := "LayeredLauncher$Line", name := "takeNameAndColon", desc := "()J" } : Jvm.MethodName) prog_5_method_9_code (3 : Nat) (Option.some Jvm.ClassFile.FieldType.long)) ∈ gt := List.mem_filter.mpr ⟨List.mem_of_getElem? (i := 147) (by decide +kernel), by decide +kernel⟩
theorem g148 : (Jvm.Cond.methodLink "LayeredLauncher$Line" (50 : Nat) ({ cls := "LayeredLauncher$Line", name := "takeName", desc := "()J" } : Jvm.MethodName)) ∈ gt := List.mem_filter.mpr ⟨List.mem_of_getElem? (i := 148) (by decide +kernel), by decide +kernel⟩
theorem g149 : (Jvm.Cond.instanceMethod ({ cls := "LayeredLauncher$Line", name := "takeName", desc := "()J" } : Jvm.MethodName)) ∈ gt := List.mem_filter.mpr ⟨List.mem_of_getElem? (i := 149) (by decide +kernel), by decide +kernel⟩
theorem g150 : (Jvm.Cond.selects "LayeredLauncher$Line" ({ cls := "LayeredLauncher$Line", name := "takeName", desc := "()J" } : Jvm.MethodName) ({ cls := "LayeredLauncher$Line", name := "takeName", desc := "()J" } : Jvm.MethodName)) ∈ gt := List.mem_filter.mpr ⟨List.mem_of_getElem? (i := 150) (by decide +kernel), by decide +kernel⟩
theorem g151 : (Jvm.Cond.code ({ cls := "LayeredLauncher$Line", name := "takeName", desc := "()J" } : Jvm.MethodName) prog_5_method_8_code (4 : Nat) (Option.some Jvm.ClassFile.FieldType.long)) ∈ gt := List.mem_filter.mpr ⟨List.mem_of_getElem? (i := 151) (by decide +kernel), by decide +kernel⟩
theorem g152 : (Jvm.Cond.methodLink "LayeredLauncher$Line" (35 : Nat) ({ cls := "java/lang/Math", name := "min", desc := "(II)I" } : Jvm.MethodName)) ∈ gt := List.mem_filter.mpr ⟨List.mem_of_getElem? (i := 152) (by decide +kernel), by decide +kernel⟩
theorem g153 : (Jvm.Cond.static ({ cls := "java/lang/Math", name := "min", desc := "(II)I" } : Jvm.MethodName)) ∈ gt := List.mem_filter.mpr ⟨List.mem_of_getElem? (i := 153) (by decide +kernel), by decide +kernel⟩
theorem g154 : (Jvm.Cond.code ({ cls := "java/lang/Math", name := "min", desc := "(II)I" } : Jvm.MethodName) prog_11_method_69_code (2 : Nat) (Option.some Jvm.ClassFile.FieldType.int)) ∈ gt := List.mem_filter.mpr ⟨List.mem_of_getElem? (i := 154) (by decide +kernel), by decide +kernel⟩
theorem g156 : (Jvm.Cond.static ({ cls := "LayeredLauncher", name := "isLetter", desc := "(C)Z" } : Jvm.MethodName)) ∈ gt := List.mem_filter.mpr ⟨List.mem_of_getElem? (i := 156) (by decide +kernel), by decide +kernel⟩
theorem g157 : (Jvm.Cond.code ({ cls := "LayeredLauncher", name := "isLetter", desc := "(C)Z" } : Jvm.MethodName) prog_1_method_25_code (1 : Nat) (Option.some Jvm.ClassFile.FieldType.boolean)) ∈ gt := List.mem_filter.mpr ⟨List.mem_of_getElem? (i := 157) (by decide +kernel), by decide +kernel⟩
theorem g158 : (Jvm.Cond.constantLong "LayeredLauncher$Line" (44 : Nat) (27 : Int64)) ∈ gt := List.mem_filter.mpr ⟨List.mem_of_getElem? (i := 158) (by decide +kernel), by decide +kernel⟩
theorem g160 : (Jvm.Cond.static ({ cls := "LayeredLauncher", name := "letterNumber", desc := "(C)I" } : Jvm.MethodName)) ∈ gt := List.mem_filter.mpr ⟨List.mem_of_getElem? (i := 160) (by decide +kernel), by decide +kernel⟩
theorem g161 : (Jvm.Cond.code ({ cls := "LayeredLauncher", name := "letterNumber", desc := "(C)I" } : Jvm.MethodName) prog_1_method_27_code (1 : Nat) (Option.some Jvm.ClassFile.FieldType.int)) ∈ gt := List.mem_filter.mpr ⟨List.mem_of_getElem? (i := 161) (by decide +kernel), by decide +kernel⟩
theorem g162 : (Jvm.Cond.methodLink "LayeredLauncher$Line" (54 : Nat) ({ cls := "LayeredLauncher$Line", name := "take", desc := "(C)Z" } : Jvm.MethodName)) ∈ gt := List.mem_filter.mpr ⟨List.mem_of_getElem? (i := 162) (by decide +kernel), by decide +kernel⟩
theorem g163 : (Jvm.Cond.instanceMethod ({ cls := "LayeredLauncher$Line", name := "take", desc := "(C)Z" } : Jvm.MethodName)) ∈ gt := List.mem_filter.mpr ⟨List.mem_of_getElem? (i := 163) (by decide +kernel), by decide +kernel⟩
theorem g164 : (Jvm.Cond.selects "LayeredLauncher$Line" ({ cls := "LayeredLauncher$Line", name := "take", desc := "(C)Z" } : Jvm.MethodName) ({ cls := "LayeredLauncher$Line", name := "take", desc := "(C)Z" } : Jvm.MethodName)) ∈ gt := List.mem_filter.mpr ⟨List.mem_of_getElem? (i := 164) (by decide +kernel), by decide +kernel⟩
theorem g165 : (Jvm.Cond.code ({ cls := "LayeredLauncher$Line", name := "take", desc := "(C)Z" } : Jvm.MethodName) prog_5_method_7_code (2 : Nat) (Option.some Jvm.ClassFile.FieldType.boolean)) ∈ gt := List.mem_filter.mpr ⟨List.mem_of_getElem? (i := 165) (by decide +kernel), by decide +kernel⟩
theorem g166 : (Jvm.Cond.methodLink "LayeredLauncher$Line" (31 : Nat) ({ cls := "LayeredLauncher$Line", name := "standsAt", desc := "(C)Z" } : Jvm.MethodName)) ∈ gt := List.mem_filter.mpr ⟨List.mem_of_getElem? (i := 166) (by decide +kernel), by decide +kernel⟩
theorem g167 : (Jvm.Cond.instanceMethod ({ cls := "LayeredLauncher$Line", name := "standsAt", desc := "(C)Z" } : Jvm.MethodName)) ∈ gt := List.mem_filter.mpr ⟨List.mem_of_getElem? (i := 167) (by decide +kernel), by decide +kernel⟩
theorem g168 : (Jvm.Cond.selects "LayeredLauncher$Line" ({ cls := "LayeredLauncher$Line", name := "standsAt", desc := "(C)Z" } : Jvm.MethodName) ({ cls := "LayeredLauncher$Line", name := "standsAt", desc := "(C)Z" } : Jvm.MethodName)) ∈ gt := List.mem_filter.mpr ⟨List.mem_of_getElem? (i := 168) (by decide +kernel), by decide +kernel⟩
theorem g169 : (Jvm.Cond.code ({ cls := "LayeredLauncher$Line", name := "standsAt", desc := "(C)Z" } : Jvm.MethodName) prog_5_method_6_code (2 : Nat) (Option.some Jvm.ClassFile.FieldType.boolean)) ∈ gt := List.mem_filter.mpr ⟨List.mem_of_getElem? (i := 169) (by decide +kernel), by decide +kernel⟩
theorem g170 : (Jvm.Cond.methodLink "LayeredLauncher" (53 : Nat) ({ cls := "LayeredLauncher$Line", name := "takeVersion", desc := "()LLayeredLauncher$Version;" } : Jvm.MethodName)) ∈ gt := List.mem_filter.mpr ⟨List.mem_of_getElem? (i := 170) (by decide +kernel), by decide +kernel⟩
theorem g171 : (Jvm.Cond.instanceMethod ({ cls := "LayeredLauncher$Line", name := "takeVersion", desc := "()LLayeredLauncher$Version;" } : Jvm.MethodName)) ∈ gt := List.mem_filter.mpr ⟨List.mem_of_getElem? (i := 171) (by decide +kernel), by decide +kernel⟩
theorem g172 : (Jvm.Cond.selects "LayeredLauncher$Line" ({ cls := "LayeredLauncher$Line", name := "takeVersion", desc := "()LLayeredLauncher$Version;" } : Jvm.MethodName) ({ cls := "LayeredLauncher$Line", name := "takeVersion", desc := "()LLayeredLauncher$Version;" } : Jvm.MethodName)) ∈ gt := List.mem_filter.mpr ⟨List.mem_of_getElem? (i := 172) (by decide +kernel), by decide +kernel⟩
theorem g173 : (Jvm.Cond.code ({ cls := "LayeredLauncher$Line", name := "takeVersion", desc := "()LLayeredLauncher$Version;" } : Jvm.MethodName) prog_5_method_10_code (2 : Nat) (Option.some (Jvm.ClassFile.FieldType.object "LayeredLauncher$Version"))) ∈ gt := List.mem_filter.mpr ⟨List.mem_of_getElem? (i := 173) (by decide +kernel), by decide +kernel⟩
theorem g174 : (Jvm.Cond.methodLink "LayeredLauncher$Line" (57 : Nat) ({ cls := "LayeredLauncher$Line", name := "isOfVersion", desc := "(C)Z" } : Jvm.MethodName)) ∈ gt := List.mem_filter.mpr ⟨List.mem_of_getElem? (i := 174) (by decide +kernel), by decide +kernel⟩
theorem g175 : (Jvm.Cond.static ({ cls := "LayeredLauncher$Line", name := "isOfVersion", desc := "(C)Z" } : Jvm.MethodName)) ∈ gt := List.mem_filter.mpr ⟨List.mem_of_getElem? (i := 175) (by decide +kernel), by decide +kernel⟩
theorem g176 : (Jvm.Cond.code ({ cls := "LayeredLauncher$Line", name := "isOfVersion", desc := "(C)Z" } : Jvm.MethodName) prog_5_method_14_code (1 : Nat) (Option.some Jvm.ClassFile.FieldType.boolean)) ∈ gt := List.mem_filter.mpr ⟨List.mem_of_getElem? (i := 176) (by decide +kernel), by decide +kernel⟩
theorem g178 : (Jvm.Cond.static ({ cls := "LayeredLauncher", name := "isDigit", desc := "(C)Z" } : Jvm.MethodName)) ∈ gt := List.mem_filter.mpr ⟨List.mem_of_getElem? (i := 178) (by decide +kernel), by decide +kernel⟩
theorem g179 : (Jvm.Cond.code ({ cls := "LayeredLauncher", name := "isDigit", desc := "(C)Z" } : Jvm.MethodName) prog_1_method_24_code (1 : Nat) (Option.some Jvm.ClassFile.FieldType.boolean)) ∈ gt := List.mem_filter.mpr ⟨List.mem_of_getElem? (i := 179) (by decide +kernel), by decide +kernel⟩
theorem g181 : (Jvm.Cond.static ({ cls := "LayeredLauncher", name := "isSeparator", desc := "(C)Z" } : Jvm.MethodName)) ∈ gt := List.mem_filter.mpr ⟨List.mem_of_getElem? (i := 181) (by decide +kernel), by decide +kernel⟩
theorem g182 : (Jvm.Cond.code ({ cls := "LayeredLauncher", name := "isSeparator", desc := "(C)Z" } : Jvm.MethodName) prog_1_method_26_code (1 : Nat) (Option.some Jvm.ClassFile.FieldType.boolean)) ∈ gt := List.mem_filter.mpr ⟨List.mem_of_getElem? (i := 182) (by decide +kernel), by decide +kernel⟩
theorem g183 : (Jvm.Cond.methodLink "LayeredLauncher$Line" (60 : Nat) ({ cls := "LayeredLauncher$Line", name := "isVersion", desc := "(II)Z" } : Jvm.MethodName)) ∈ gt := List.mem_filter.mpr ⟨List.mem_of_getElem? (i := 183) (by decide +kernel), by decide +kernel⟩
theorem g185 : (Jvm.Cond.instanceMethod ({ cls := "LayeredLauncher$Line", name := "isVersion", desc := "(II)Z" } : Jvm.MethodName)) ∈ gt := List.mem_filter.mpr ⟨List.mem_of_getElem? (i := 185) (by decide +kernel), by decide +kernel⟩
theorem g186 : (Jvm.Cond.code ({ cls := "LayeredLauncher$Line", name := "isVersion", desc := "(II)Z" } : Jvm.MethodName) prog_5_method_13_code (6 : Nat) (Option.some Jvm.ClassFile.FieldType.boolean)) ∈ gt := List.mem_filter.mpr ⟨List.mem_of_getElem? (i := 186) (by decide +kernel), by decide +kernel⟩
theorem g187 : (Jvm.Cond.classLink "LayeredLauncher$Line" (64 : Nat) "LayeredLauncher$Version") ∈ gt := List.mem_filter.mpr ⟨List.mem_of_getElem? (i := 187) (by decide +kernel), by decide +kernel⟩
theorem g188 : (Jvm.Cond.instantiable "LayeredLauncher$Version" (1 : Nat)) ∈ gt := List.mem_filter.mpr ⟨List.mem_of_getElem? (i := 188) (by decide +kernel), by decide +kernel⟩
theorem g189 : (Jvm.Cond.methodLink "LayeredLauncher$Line" (66 : Nat) ({ cls := "LayeredLauncher$Version", name := "<init>", desc := "([CII)V" } : Jvm.MethodName)) ∈ gt := List.mem_filter.mpr ⟨List.mem_of_getElem? (i := 189) (by decide +kernel), by decide +kernel⟩
theorem g190 : (Jvm.Cond.instanceMethod ({ cls := "LayeredLauncher$Version", name := "<init>", desc := "([CII)V" } : Jvm.MethodName)) ∈ gt := List.mem_filter.mpr ⟨List.mem_of_getElem? (i := 190) (by decide +kernel), by decide +kernel⟩
theorem g191 : (Jvm.Cond.code ({ cls := "LayeredLauncher$Version", name := "<init>", desc := "([CII)V" } : Jvm.MethodName) prog_7_method_1_code (10 : Nat) (Option.none : Option Jvm.ClassFile.FieldType)) ∈ gt := List.mem_filter.mpr ⟨List.mem_of_getElem? (i := 191) (by decide +kernel), by decide +kernel⟩
theorem g192 : (Jvm.Cond.methodLink "LayeredLauncher$Version" (3 : Nat) ({ cls := "java/lang/Object", name := "<init>", desc := "()V" } : Jvm.MethodName)) ∈ gt := List.mem_filter.mpr ⟨List.mem_of_getElem? (i := 192) (by decide +kernel), by decide +kernel⟩
theorem g194 : (Jvm.Cond.constantLong "LayeredLauncher$Version" (19 : Nat) (10 : Int64)) ∈ gt := List.mem_filter.mpr ⟨List.mem_of_getElem? (i := 194) (by decide +kernel), by decide +kernel⟩
theorem g196 : (Jvm.Cond.constantLong "LayeredLauncher$Version" (24 : Nat) (205891132094649 : Int64)) ∈ gt := List.mem_filter.mpr ⟨List.mem_of_getElem? (i := 196) (by decide +kernel), by decide +kernel⟩
theorem g197 : (Jvm.Cond.constantLong "LayeredLauncher$Version" (26 : Nat) (-5559060566555523 : Int64)) ∈ gt := List.mem_filter.mpr ⟨List.mem_of_getElem? (i := 197) (by decide +kernel), by decide +kernel⟩
theorem g199 : (Jvm.Cond.constantLong "LayeredLauncher$Version" (32 : Nat) (27 : Int64)) ∈ gt := List.mem_filter.mpr ⟨List.mem_of_getElem? (i := 199) (by decide +kernel), by decide +kernel⟩
theorem g200 : (Jvm.Cond.fieldLink "LayeredLauncher$Version" (9 : Nat) "LayeredLauncher$Version" "parts" "[J") ∈ gt := List.mem_filter.mpr ⟨List.mem_of_getElem? (i := 200) (by decide +kernel), by decide +kernel⟩
theorem g204 : (Jvm.Cond.arrayClass Jvm.ClassFile.FieldType.long) ∈ gt := List.mem_filter.mpr ⟨List.mem_of_getElem? (i := 204) (by decide +kernel), by decide +kernel⟩
theorem g205 : (Jvm.Cond.methodLink "LayeredLauncher" (57 : Nat) ({ cls := "LayeredLauncher$Line", name := "copy", desc := "()[C" } : Jvm.MethodName)) ∈ gt := List.mem_filter.mpr ⟨List.mem_of_getElem? (i := 205) (by decide +kernel), by decide +kernel⟩
theorem g206 : (Jvm.Cond.instanceMethod ({ cls := "LayeredLauncher$Line", name := "copy", desc := "()[C" } : Jvm.MethodName)) ∈ gt := List.mem_filter.mpr ⟨List.mem_of_getElem? (i := 206) (by decide +kernel), by decide +kernel⟩
theorem g207 : (Jvm.Cond.selects "LayeredLauncher$Line" ({ cls := "LayeredLauncher$Line", name := "copy", desc := "()[C" } : Jvm.MethodName) ({ cls := "LayeredLauncher$Line", name := "copy", desc := "()[C" } : Jvm.MethodName)) ∈ gt := List.mem_filter.mpr ⟨List.mem_of_getElem? (i := 207) (by decide +kernel), by decide +kernel⟩
theorem g208 : (Jvm.Cond.code ({ cls := "LayeredLauncher$Line", name := "copy", desc := "()[C" } : Jvm.MethodName) prog_5_method_4_code (2 : Nat) (Option.some (Jvm.ClassFile.FieldType.array Jvm.ClassFile.FieldType.char))) ∈ gt := List.mem_filter.mpr ⟨List.mem_of_getElem? (i := 208) (by decide +kernel), by decide +kernel⟩
theorem g209 : (Jvm.Cond.methodLink "LayeredLauncher$Line" (22 : Nat) ({ cls := "java/lang/System", name := "arraycopy", desc := "(Ljava/lang/Object;ILjava/lang/Object;II)V" } : Jvm.MethodName)) ∈ gt := List.mem_filter.mpr ⟨List.mem_of_getElem? (i := 209) (by decide +kernel), by decide +kernel⟩
theorem g210 : (Jvm.Cond.static ({ cls := "java/lang/System", name := "arraycopy", desc := "(Ljava/lang/Object;ILjava/lang/Object;II)V" } : Jvm.MethodName)) ∈ gt := List.mem_filter.mpr ⟨List.mem_of_getElem? (i := 210) (by decide +kernel), by decide +kernel⟩
theorem g211 : (Jvm.Cond.native ({ cls := "java/lang/System", name := "arraycopy", desc := "(Ljava/lang/Object;ILjava/lang/Object;II)V" } : Jvm.MethodName)) ∈ gt := List.mem_filter.mpr ⟨List.mem_of_getElem? (i := 211) (by decide +kernel), by decide +kernel⟩
theorem g212 : (Jvm.Cond.methodLink "LayeredLauncher" (61 : Nat) ({ cls := "LayeredLauncher$Line", name := "finishReading", desc := "()Z" } : Jvm.MethodName)) ∈ gt := List.mem_filter.mpr ⟨List.mem_of_getElem? (i := 212) (by decide +kernel), by decide +kernel⟩
theorem g213 : (Jvm.Cond.instanceMethod ({ cls := "LayeredLauncher$Line", name := "finishReading", desc := "()Z" } : Jvm.MethodName)) ∈ gt := List.mem_filter.mpr ⟨List.mem_of_getElem? (i := 213) (by decide +kernel), by decide +kernel⟩
theorem g214 : (Jvm.Cond.selects "LayeredLauncher$Line" ({ cls := "LayeredLauncher$Line", name := "finishReading", desc := "()Z" } : Jvm.MethodName) ({ cls := "LayeredLauncher$Line", name := "finishReading", desc := "()Z" } : Jvm.MethodName)) ∈ gt := List.mem_filter.mpr ⟨List.mem_of_getElem? (i := 214) (by decide +kernel), by decide +kernel⟩
theorem g215 : (Jvm.Cond.code ({ cls := "LayeredLauncher$Line", name := "finishReading", desc := "()Z" } : Jvm.MethodName) prog_5_method_5_code (2 : Nat) (Option.some Jvm.ClassFile.FieldType.boolean)) ∈ gt := List.mem_filter.mpr ⟨List.mem_of_getElem? (i := 215) (by decide +kernel), by decide +kernel⟩
theorem g216 : (Jvm.Cond.methodLink "LayeredLauncher$Line" (28 : Nat) ({ cls := "LayeredLauncher$Line", name := "clear", desc := "()V" } : Jvm.MethodName)) ∈ gt := List.mem_filter.mpr ⟨List.mem_of_getElem? (i := 216) (by decide +kernel), by decide +kernel⟩
theorem g217 : (Jvm.Cond.methodLink "LayeredLauncher" (65 : Nat) ({ cls := "LayeredLauncher$Range", name := "exactly", desc := "(LLayeredLauncher$Version;Z)LLayeredLauncher$Range;" } : Jvm.MethodName)) ∈ gt := List.mem_filter.mpr ⟨List.mem_of_getElem? (i := 217) (by decide +kernel), by decide +kernel⟩
theorem g218 : (Jvm.Cond.static ({ cls := "LayeredLauncher$Range", name := "exactly", desc := "(LLayeredLauncher$Version;Z)LLayeredLauncher$Range;" } : Jvm.MethodName)) ∈ gt := List.mem_filter.mpr ⟨List.mem_of_getElem? (i := 218) (by decide +kernel), by decide +kernel⟩
theorem g219 : (Jvm.Cond.code ({ cls := "LayeredLauncher$Range", name := "exactly", desc := "(LLayeredLauncher$Version;Z)LLayeredLauncher$Range;" } : Jvm.MethodName) prog_6_method_2_code (2 : Nat) (Option.some (Jvm.ClassFile.FieldType.object "LayeredLauncher$Range"))) ∈ gt := List.mem_filter.mpr ⟨List.mem_of_getElem? (i := 219) (by decide +kernel), by decide +kernel⟩
theorem g220 : (Jvm.Cond.classLink "LayeredLauncher$Range" (8 : Nat) "LayeredLauncher$Range") ∈ gt := List.mem_filter.mpr ⟨List.mem_of_getElem? (i := 220) (by decide +kernel), by decide +kernel⟩
theorem g221 : (Jvm.Cond.instantiable "LayeredLauncher$Range" (5 : Nat)) ∈ gt := List.mem_filter.mpr ⟨List.mem_of_getElem? (i := 221) (by decide +kernel), by decide +kernel⟩
theorem g222 : (Jvm.Cond.methodLink "LayeredLauncher$Range" (26 : Nat) ({ cls := "LayeredLauncher$Range", name := "<init>", desc := "(ZLLayeredLauncher$Version;ZLLayeredLauncher$Version;Z)V" } : Jvm.MethodName)) ∈ gt := List.mem_filter.mpr ⟨List.mem_of_getElem? (i := 222) (by decide +kernel), by decide +kernel⟩
theorem g223 : (Jvm.Cond.instanceMethod ({ cls := "LayeredLauncher$Range", name := "<init>", desc := "(ZLLayeredLauncher$Version;ZLLayeredLauncher$Version;Z)V" } : Jvm.MethodName)) ∈ gt := List.mem_filter.mpr ⟨List.mem_of_getElem? (i := 223) (by decide +kernel), by decide +kernel⟩
theorem g224 : (Jvm.Cond.code ({ cls := "LayeredLauncher$Range", name := "<init>", desc := "(ZLLayeredLauncher$Version;ZLLayeredLauncher$Version;Z)V" } : Jvm.MethodName) prog_6_method_1_code (6 : Nat) (Option.none : Option Jvm.ClassFile.FieldType)) ∈ gt := List.mem_filter.mpr ⟨List.mem_of_getElem? (i := 224) (by decide +kernel), by decide +kernel⟩
theorem g225 : (Jvm.Cond.methodLink "LayeredLauncher$Range" (1 : Nat) ({ cls := "java/lang/Object", name := "<init>", desc := "()V" } : Jvm.MethodName)) ∈ gt := List.mem_filter.mpr ⟨List.mem_of_getElem? (i := 225) (by decide +kernel), by decide +kernel⟩
theorem g226 : (Jvm.Cond.fieldLink "LayeredLauncher$Range" (7 : Nat) "LayeredLauncher$Range" "wish" "Z") ∈ gt := List.mem_filter.mpr ⟨List.mem_of_getElem? (i := 226) (by decide +kernel), by decide +kernel⟩
theorem g227 : (Jvm.Cond.fieldLink "LayeredLauncher" (213 : Nat) "LayeredLauncher$Range" "wish" "Z") ∈ gt := List.mem_filter.mpr ⟨List.mem_of_getElem? (i := 227) (by decide +kernel), by decide +kernel⟩
theorem g228 : (Jvm.Cond.fieldLink "LayeredLauncher$Range" (13 : Nat) "LayeredLauncher$Range" "low" "LLayeredLauncher$Version;") ∈ gt := List.mem_filter.mpr ⟨List.mem_of_getElem? (i := 228) (by decide +kernel), by decide +kernel⟩
theorem g229 : (Jvm.Cond.fieldLink "LayeredLauncher$Range" (17 : Nat) "LayeredLauncher$Range" "lowOpen" "Z") ∈ gt := List.mem_filter.mpr ⟨List.mem_of_getElem? (i := 229) (by decide +kernel), by decide +kernel⟩
theorem g230 : (Jvm.Cond.fieldLink "LayeredLauncher$Range" (20 : Nat) "LayeredLauncher$Range" "high" "LLayeredLauncher$Version;") ∈ gt := List.mem_filter.mpr ⟨List.mem_of_getElem? (i := 230) (by decide +kernel), by decide +kernel⟩
theorem g231 : (Jvm.Cond.fieldLink "LayeredLauncher$Range" (23 : Nat) "LayeredLauncher$Range" "highOpen" "Z") ∈ gt := List.mem_filter.mpr ⟨List.mem_of_getElem? (i := 231) (by decide +kernel), by decide +kernel⟩
theorem g243 : (Jvm.Cond.methodLink "LayeredLauncher" (71 : Nat) ({ cls := "LayeredLauncher", name := "pickFor", desc := "(JLLayeredLauncher$Range;)LLayeredLauncher$Artifact;" } : Jvm.MethodName)) ∈ gt := List.mem_filter.mpr ⟨List.mem_of_getElem? (i := 243) (by decide +kernel), by decide +kernel⟩
theorem g245 : (Jvm.Cond.instanceMethod ({ cls := "LayeredLauncher", name := "pickFor", desc := "(JLLayeredLauncher$Range;)LLayeredLauncher$Artifact;" } : Jvm.MethodName)) ∈ gt := List.mem_filter.mpr ⟨List.mem_of_getElem? (i := 245) (by decide +kernel), by decide +kernel⟩
theorem g246 : (Jvm.Cond.code ({ cls := "LayeredLauncher", name := "pickFor", desc := "(JLLayeredLauncher$Range;)LLayeredLauncher$Artifact;" } : Jvm.MethodName) prog_1_method_20_code (8 : Nat) (Option.some (Jvm.ClassFile.FieldType.object "LayeredLauncher$Artifact"))) ∈ gt := List.mem_filter.mpr ⟨List.mem_of_getElem? (i := 246) (by decide +kernel), by decide +kernel⟩
theorem g247 : (Jvm.Cond.methodLink "LayeredLauncher" (181 : Nat) ({ cls := "LayeredLauncher$Range", name := "holds", desc := "(LLayeredLauncher$Version;)Z" } : Jvm.MethodName)) ∈ gt := List.mem_filter.mpr ⟨List.mem_of_getElem? (i := 247) (by decide +kernel), by decide +kernel⟩
theorem g248 : (Jvm.Cond.instanceMethod ({ cls := "LayeredLauncher$Range", name := "holds", desc := "(LLayeredLauncher$Version;)Z" } : Jvm.MethodName)) ∈ gt := List.mem_filter.mpr ⟨List.mem_of_getElem? (i := 248) (by decide +kernel), by decide +kernel⟩
theorem g249 : (Jvm.Cond.selects "LayeredLauncher$Range" ({ cls := "LayeredLauncher$Range", name := "holds", desc := "(LLayeredLauncher$Version;)Z" } : Jvm.MethodName) ({ cls := "LayeredLauncher$Range", name := "holds", desc := "(LLayeredLauncher$Version;)Z" } : Jvm.MethodName)) ∈ gt := List.mem_filter.mpr ⟨List.mem_of_getElem? (i := 249) (by decide +kernel), by decide +kernel⟩
theorem g250 : (Jvm.Cond.code ({ cls := "LayeredLauncher$Range", name := "holds", desc := "(LLayeredLauncher$Version;)Z" } : Jvm.MethodName) prog_6_method_3_code (2 : Nat) (Option.some Jvm.ClassFile.FieldType.boolean)) ∈ gt := List.mem_filter.mpr ⟨List.mem_of_getElem? (i := 250) (by decide +kernel), by decide +kernel⟩
theorem g251 : (Jvm.Cond.methodLink "LayeredLauncher$Range" (29 : Nat) ({ cls := "LayeredLauncher$Range", name := "keepsLow", desc := "(LLayeredLauncher$Version;)Z" } : Jvm.MethodName)) ∈ gt := List.mem_filter.mpr ⟨List.mem_of_getElem? (i := 251) (by decide +kernel), by decide +kernel⟩
theorem g253 : (Jvm.Cond.instanceMethod ({ cls := "LayeredLauncher$Range", name := "keepsLow", desc := "(LLayeredLauncher$Version;)Z" } : Jvm.MethodName)) ∈ gt := List.mem_filter.mpr ⟨List.mem_of_getElem? (i := 253) (by decide +kernel), by decide +kernel⟩
theorem g254 : (Jvm.Cond.code ({ cls := "LayeredLauncher$Range", name := "keepsLow", desc := "(LLayeredLauncher$Version;)Z" } : Jvm.MethodName) prog_6_method_4_code (3 : Nat) (Option.some Jvm.ClassFile.FieldType.boolean)) ∈ gt := List.mem_filter.mpr ⟨List.mem_of_getElem? (i := 254) (by decide +kernel), by decide +kernel⟩
theorem g255 : (Jvm.Cond.methodLink "LayeredLauncher$Range" (36 : Nat) ({ cls := "LayeredLauncher$Version", name := "orderAgainst", desc := "(LLayeredLauncher$Version;)I" } : Jvm.MethodName)) ∈ gt := List.mem_filter.mpr ⟨List.mem_of_getElem? (i := 255) (by decide +kernel), by decide +kernel⟩
theorem g256 : (Jvm.Cond.instanceMethod ({ cls := "LayeredLauncher$Version", name := "orderAgainst", desc := "(LLayeredLauncher$Version;)I" } : Jvm.MethodName)) ∈ gt := List.mem_filter.mpr ⟨List.mem_of_getElem? (i := 256) (by decide +kernel), by decide +kernel⟩
theorem g257 : (Jvm.Cond.selects "LayeredLauncher$Version" ({ cls := "LayeredLauncher$Version", name := "orderAgainst", desc := "(LLayeredLauncher$Version;)I" } : Jvm.MethodName) ({ cls := "LayeredLauncher$Version", name := "orderAgainst", desc := "(LLayeredLauncher$Version;)I" } : Jvm.MethodName)) ∈ gt := List.mem_filter.mpr ⟨List.mem_of_getElem? (i := 257) (by decide +kernel), by decide +kernel⟩
theorem g258 : (Jvm.Cond.code ({ cls := "LayeredLauncher$Version", name := "orderAgainst", desc := "(LLayeredLauncher$Version;)I" } : Jvm.MethodName) prog_7_method_2_code (3 : Nat) (Option.some Jvm.ClassFile.FieldType.int)) ∈ gt := List.mem_filter.mpr ⟨List.mem_of_getElem? (i := 258) (by decide +kernel), by decide +kernel⟩
theorem g259 : (Jvm.Cond.methodLink "LayeredLauncher$Range" (33 : Nat) ({ cls := "LayeredLauncher$Range", name := "keepsHigh", desc := "(LLayeredLauncher$Version;)Z" } : Jvm.MethodName)) ∈ gt := List.mem_filter.mpr ⟨List.mem_of_getElem? (i := 259) (by decide +kernel), by decide +kernel⟩
theorem g261 : (Jvm.Cond.instanceMethod ({ cls := "LayeredLauncher$Range", name := "keepsHigh", desc := "(LLayeredLauncher$Version;)Z" } : Jvm.MethodName)) ∈ gt := List.mem_filter.mpr ⟨List.mem_of_getElem? (i := 261) (by decide +kernel), by decide +kernel⟩
theorem g262 : (Jvm.Cond.code ({ cls := "LayeredLauncher$Range", name := "keepsHigh", desc := "(LLayeredLauncher$Version;)Z" } : Jvm.MethodName) prog_6_method_5_code (3 : Nat) (Option.some Jvm.ClassFile.FieldType.boolean)) ∈ gt := List.mem_filter.mpr ⟨List.mem_of_getElem? (i := 262) (by decide +kernel), by decide +kernel⟩
theorem g263 : (Jvm.Cond.methodLink "LayeredLauncher" (128 : Nat) ({ cls := "LayeredLauncher$Version", name := "orderAgainst", desc := "(LLayeredLauncher$Version;)I" } : Jvm.MethodName)) ∈ gt := List.mem_filter.mpr ⟨List.mem_of_getElem? (i := 263) (by decide +kernel), by decide +kernel⟩
theorem g264 : (Jvm.Cond.instantiable "LayeredLauncher$Artifact" (8 : Nat)) ∈ gt := List.mem_filter.mpr ⟨List.mem_of_getElem? (i := 264) (by decide +kernel), by decide +kernel⟩
theorem g265 : (Jvm.Cond.methodLink "LayeredLauncher" (75 : Nat) ({ cls := "LayeredLauncher$Artifact", name := "<init>", desc := "(IJLLayeredLauncher$Version;[C)V" } : Jvm.MethodName)) ∈ gt := List.mem_filter.mpr ⟨List.mem_of_getElem? (i := 265) (by decide +kernel), by decide +kernel⟩
theorem g266 : (Jvm.Cond.instanceMethod ({ cls := "LayeredLauncher$Artifact", name := "<init>", desc := "(IJLLayeredLauncher$Version;[C)V" } : Jvm.MethodName)) ∈ gt := List.mem_filter.mpr ⟨List.mem_of_getElem? (i := 266) (by decide +kernel), by decide +kernel⟩
theorem g267 : (Jvm.Cond.code ({ cls := "LayeredLauncher$Artifact", name := "<init>", desc := "(IJLLayeredLauncher$Version;[C)V" } : Jvm.MethodName) prog_2_method_1_code (6 : Nat) (Option.none : Option Jvm.ClassFile.FieldType)) ∈ gt := List.mem_filter.mpr ⟨List.mem_of_getElem? (i := 267) (by decide +kernel), by decide +kernel⟩
theorem g268 : (Jvm.Cond.methodLink "LayeredLauncher$Artifact" (3 : Nat) ({ cls := "java/lang/Object", name := "<init>", desc := "()V" } : Jvm.MethodName)) ∈ gt := List.mem_filter.mpr ⟨List.mem_of_getElem? (i := 268) (by decide +kernel), by decide +kernel⟩
theorem g269 : (Jvm.Cond.classLink "LayeredLauncher$Artifact" (9 : Nat) "LayeredLauncher$Dependency") ∈ gt := List.mem_filter.mpr ⟨List.mem_of_getElem? (i := 269) (by decide +kernel), by decide +kernel⟩
theorem g270 : (Jvm.Cond.fieldLink "LayeredLauncher$Artifact" (28 : Nat) "LayeredLauncher$Artifact" "number" "I") ∈ gt := List.mem_filter.mpr ⟨List.mem_of_getElem? (i := 270) (by decide +kernel), by decide +kernel⟩
theorem g271 : (Jvm.Cond.fieldLink "LayeredLauncher" (145 : Nat) "LayeredLauncher$Artifact" "number" "I") ∈ gt := List.mem_filter.mpr ⟨List.mem_of_getElem? (i := 271) (by decide +kernel), by decide +kernel⟩
theorem g272 : (Jvm.Cond.fieldLink "LayeredLauncher$Artifact" (31 : Nat) "LayeredLauncher$Artifact" "name" "J") ∈ gt := List.mem_filter.mpr ⟨List.mem_of_getElem? (i := 272) (by decide +kernel), by decide +kernel⟩
theorem g273 : (Jvm.Cond.fieldLink "LayeredLauncher$EntryList" (38 : Nat) "LayeredLauncher$Artifact" "name" "J") ∈ gt := List.mem_filter.mpr ⟨List.mem_of_getElem? (i := 273) (by decide +kernel), by decide +kernel⟩
theorem g274 : (Jvm.Cond.fieldLink "LayeredLauncher" (173 : Nat) "LayeredLauncher$Artifact" "name" "J") ∈ gt := List.mem_filter.mpr ⟨List.mem_of_getElem? (i := 274) (by decide +kernel), by decide +kernel⟩
theorem g275 : (Jvm.Cond.fieldLink "LayeredLauncher$Artifact" (35 : Nat) "LayeredLauncher$Artifact" "version" "LLayeredLauncher$Version;") ∈ gt := List.mem_filter.mpr ⟨List.mem_of_getElem? (i := 275) (by decide +kernel), by decide +kernel⟩
theorem g276 : (Jvm.Cond.fieldLink "LayeredLauncher" (177 : Nat) "LayeredLauncher$Artifact" "version" "LLayeredLauncher$Version;") ∈ gt := List.mem_filter.mpr ⟨List.mem_of_getElem? (i := 276) (by decide +kernel), by decide +kernel⟩
theorem g277 : (Jvm.Cond.fieldLink "LayeredLauncher$Artifact" (39 : Nat) "LayeredLauncher$Artifact" "characters" "[C") ∈ gt := List.mem_filter.mpr ⟨List.mem_of_getElem? (i := 277) (by decide +kernel), by decide +kernel⟩
theorem g278 : (Jvm.Cond.fieldLink "LayeredLauncher" (159 : Nat) "LayeredLauncher$Artifact" "characters" "[C") ∈ gt := List.mem_filter.mpr ⟨List.mem_of_getElem? (i := 278) (by decide +kernel), by decide +kernel⟩
theorem g279 : (Jvm.Cond.fieldLink "LayeredLauncher$Artifact" (11 : Nat) "LayeredLauncher$Artifact" "dependencies" "[LLayeredLauncher$Dependency;") ∈ gt := List.mem_filter.mpr ⟨List.mem_of_getElem? (i := 279) (by decide +kernel), by decide +kernel⟩
theorem g280 : (Jvm.Cond.fieldLink "LayeredLauncher" (189 : Nat) "LayeredLauncher$Artifact" "dependencies" "[LLayeredLauncher$Dependency;") ∈ gt := List.mem_filter.mpr ⟨List.mem_of_getElem? (i := 280) (by decide +kernel), by decide +kernel⟩
theorem g281 : (Jvm.Cond.fieldLink "LayeredLauncher$Artifact" (17 : Nat) "LayeredLauncher$Artifact" "dependencyCount" "I") ∈ gt := List.mem_filter.mpr ⟨List.mem_of_getElem? (i := 281) (by decide +kernel), by decide +kernel⟩
theorem g282 : (Jvm.Cond.fieldLink "LayeredLauncher" (86 : Nat) "LayeredLauncher$Artifact" "dependencyCount" "I") ∈ gt := List.mem_filter.mpr ⟨List.mem_of_getElem? (i := 282) (by decide +kernel), by decide +kernel⟩
theorem g283 : (Jvm.Cond.fieldLink "LayeredLauncher$Artifact" (21 : Nat) "LayeredLauncher$Artifact" "classes" "I") ∈ gt := List.mem_filter.mpr ⟨List.mem_of_getElem? (i := 283) (by decide +kernel), by decide +kernel⟩
theorem g284 : (Jvm.Cond.fieldLink "LayeredLauncher$EntryList" (52 : Nat) "LayeredLauncher$Artifact" "classes" "I") ∈ gt := List.mem_filter.mpr ⟨List.mem_of_getElem? (i := 284) (by decide +kernel), by decide +kernel⟩
theorem g285 : (Jvm.Cond.fieldLink "LayeredLauncher$Artifact" (24 : Nat) "LayeredLauncher$Artifact" "retired" "Z") ∈ gt := List.mem_filter.mpr ⟨List.mem_of_getElem? (i := 285) (by decide +kernel), by decide +kernel⟩
theorem g286 : (Jvm.Cond.fieldLink "LayeredLauncher" (120 : Nat) "LayeredLauncher$Artifact" "retired" "Z") ∈ gt := List.mem_filter.mpr ⟨List.mem_of_getElem? (i := 286) (by decide +kernel), by decide +kernel⟩
theorem g308 : (Jvm.Cond.methodLink "LayeredLauncher" (78 : Nat) ({ cls := "LayeredLauncher$Line", name := "takeRange", desc := "()LLayeredLauncher$Range;" } : Jvm.MethodName)) ∈ gt := List.mem_filter.mpr ⟨List.mem_of_getElem? (i := 308) (by decide +kernel), by decide +kernel⟩
theorem g309 : (Jvm.Cond.instanceMethod ({ cls := "LayeredLauncher$Line", name := "takeRange", desc := "()LLayeredLauncher$Range;" } : Jvm.MethodName)) ∈ gt := List.mem_filter.mpr ⟨List.mem_of_getElem? (i := 309) (by decide +kernel), by decide +kernel⟩
theorem g310 : (Jvm.Cond.selects "LayeredLauncher$Line" ({ cls := "LayeredLauncher$Line", name := "takeRange", desc := "()LLayeredLauncher$Range;" } : Jvm.MethodName) ({ cls := "LayeredLauncher$Line", name := "takeRange", desc := "()LLayeredLauncher$Range;" } : Jvm.MethodName)) ∈ gt := List.mem_filter.mpr ⟨List.mem_of_getElem? (i := 310) (by decide +kernel), by decide +kernel⟩
theorem g311 : (Jvm.Cond.code ({ cls := "LayeredLauncher$Line", name := "takeRange", desc := "()LLayeredLauncher$Range;" } : Jvm.MethodName) prog_5_method_11_code (4 : Nat) (Option.some (Jvm.ClassFile.FieldType.object "LayeredLauncher$Range"))) ∈ gt := List.mem_filter.mpr ⟨List.mem_of_getElem? (i := 311) (by decide +kernel), by decide +kernel⟩
theorem g312 : (Jvm.Cond.methodLink "LayeredLauncher$Line" (69 : Nat) ({ cls := "LayeredLauncher$Line", name := "takeVersion", desc := "()LLayeredLauncher$Version;" } : Jvm.MethodName)) ∈ gt := List.mem_filter.mpr ⟨List.mem_of_getElem? (i := 312) (by decide +kernel), by decide +kernel⟩
theorem g313 : (Jvm.Cond.methodLink "LayeredLauncher$Line" (73 : Nat) ({ cls := "LayeredLauncher$Range", name := "exactly", desc := "(LLayeredLauncher$Version;Z)LLayeredLauncher$Range;" } : Jvm.MethodName)) ∈ gt := List.mem_filter.mpr ⟨List.mem_of_getElem? (i := 313) (by decide +kernel), by decide +kernel⟩
theorem g314 : (Jvm.Cond.methodLink "LayeredLauncher$Line" (79 : Nat) ({ cls := "LayeredLauncher$Line", name := "takeRestOfRange", desc := "(LLayeredLauncher$Version;Z)LLayeredLauncher$Range;" } : Jvm.MethodName)) ∈ gt := List.mem_filter.mpr ⟨List.mem_of_getElem? (i := 314) (by decide +kernel), by decide +kernel⟩
theorem g316 : (Jvm.Cond.instanceMethod ({ cls := "LayeredLauncher$Line", name := "takeRestOfRange", desc := "(LLayeredLauncher$Version;Z)LLayeredLauncher$Range;" } : Jvm.MethodName)) ∈ gt := List.mem_filter.mpr ⟨List.mem_of_getElem? (i := 316) (by decide +kernel), by decide +kernel⟩
theorem g317 : (Jvm.Cond.code ({ cls := "LayeredLauncher$Line", name := "takeRestOfRange", desc := "(LLayeredLauncher$Version;Z)LLayeredLauncher$Range;" } : Jvm.MethodName) prog_5_method_12_code (5 : Nat) (Option.some (Jvm.ClassFile.FieldType.object "LayeredLauncher$Range"))) ∈ gt := List.mem_filter.mpr ⟨List.mem_of_getElem? (i := 317) (by decide +kernel), by decide +kernel⟩
theorem g318 : (Jvm.Cond.classLink "LayeredLauncher$Line" (74 : Nat) "LayeredLauncher$Range") ∈ gt := List.mem_filter.mpr ⟨List.mem_of_getElem? (i := 318) (by decide +kernel), by decide +kernel⟩
theorem g319 : (Jvm.Cond.methodLink "LayeredLauncher$Line" (82 : Nat) ({ cls := "LayeredLauncher$Range", name := "<init>", desc := "(ZLLayeredLauncher$Version;ZLLayeredLauncher$Version;Z)V" } : Jvm.MethodName)) ∈ gt := List.mem_filter.mpr ⟨List.mem_of_getElem? (i := 319) (by decide +kernel), by decide +kernel⟩
theorem g320 : (Jvm.Cond.methodLink "LayeredLauncher" (82 : Nat) ({ cls := "LayeredLauncher", name := "artifactAt", desc := "(I)LLayeredLauncher$Artifact;" } : Jvm.MethodName)) ∈ gt := List.mem_filter.mpr ⟨List.mem_of_getElem? (i := 320) (by decide +kernel), by decide +kernel⟩
theorem g322 : (Jvm.Cond.instanceMethod ({ cls := "LayeredLauncher", name := "artifactAt", desc := "(I)LLayeredLauncher$Artifact;" } : Jvm.MethodName)) ∈ gt := List.mem_filter.mpr ⟨List.mem_of_getElem? (i := 322) (by decide +kernel), by decide +kernel⟩
theorem g323 : (Jvm.Cond.code ({ cls := "LayeredLauncher", name := "artifactAt", desc := "(I)LLayeredLauncher$Artifact;" } : Jvm.MethodName) prog_1_method_18_code (2 : Nat) (Option.some (Jvm.ClassFile.FieldType.object "LayeredLauncher$Artifact"))) ∈ gt := List.mem_filter.mpr ⟨List.mem_of_getElem? (i := 323) (by decide +kernel), by decide +kernel⟩
theorem g324 : (Jvm.Cond.classLink "LayeredLauncher" (89 : Nat) "LayeredLauncher$Dependency") ∈ gt := List.mem_filter.mpr ⟨List.mem_of_getElem? (i := 324) (by decide +kernel), by decide +kernel⟩
theorem g325 : (Jvm.Cond.instantiable "LayeredLauncher$Dependency" (5 : Nat)) ∈ gt := List.mem_filter.mpr ⟨List.mem_of_getElem? (i := 325) (by decide +kernel), by decide +kernel⟩
theorem g326 : (Jvm.Cond.methodLink "LayeredLauncher" (91 : Nat) ({ cls := "LayeredLauncher$Dependency", name := "<init>", desc := "(JLLayeredLauncher$Range;Z)V" } : Jvm.MethodName)) ∈ gt := List.mem_filter.mpr ⟨List.mem_of_getElem? (i := 326) (by decide +kernel), by decide +kernel⟩
theorem g327 : (Jvm.Cond.instanceMethod ({ cls := "LayeredLauncher$Dependency", name := "<init>", desc := "(JLLayeredLauncher$Range;Z)V" } : Jvm.MethodName)) ∈ gt := List.mem_filter.mpr ⟨List.mem_of_getElem? (i := 327) (by decide +kernel), by decide +kernel⟩
theorem g328 : (Jvm.Cond.code ({ cls := "LayeredLauncher$Dependency", name := "<init>", desc := "(JLLayeredLauncher$Range;Z)V" } : Jvm.MethodName) prog_3_method_1_code (5 : Nat) (Option.none : Option Jvm.ClassFile.FieldType)) ∈ gt := List.mem_filter.mpr ⟨List.mem_of_getElem? (i := 328) (by decide +kernel), by decide +kernel⟩
theorem g329 : (Jvm.Cond.methodLink "LayeredLauncher$Dependency" (3 : Nat) ({ cls := "java/lang/Object", name := "<init>", desc := "()V" } : Jvm.MethodName)) ∈ gt := List.mem_filter.mpr ⟨List.mem_of_getElem? (i := 329) (by decide +kernel), by decide +kernel⟩
theorem g330 : (Jvm.Cond.fieldLink "LayeredLauncher$Dependency" (19 : Nat) "LayeredLauncher$Dependency" "name" "J") ∈ gt := List.mem_filter.mpr ⟨List.mem_of_getElem? (i := 330) (by decide +kernel), by decide +kernel⟩
theorem g331 : (Jvm.Cond.fieldLink "LayeredLauncher" (200 : Nat) "LayeredLauncher$Dependency" "name" "J") ∈ gt := List.mem_filter.mpr ⟨List.mem_of_getElem? (i := 331) (by decide +kernel), by decide +kernel⟩
theorem g332 : (Jvm.Cond.fieldLink "LayeredLauncher$Dependency" (23 : Nat) "LayeredLauncher$Dependency" "range" "LLayeredLauncher$Range;") ∈ gt := List.mem_filter.mpr ⟨List.mem_of_getElem? (i := 332) (by decide +kernel), by decide +kernel⟩
theorem g333 : (Jvm.Cond.fieldLink "LayeredLauncher" (209 : Nat) "LayeredLauncher$Dependency" "range" "LLayeredLauncher$Range;") ∈ gt := List.mem_filter.mpr ⟨List.mem_of_getElem? (i := 333) (by decide +kernel), by decide +kernel⟩
theorem g334 : (Jvm.Cond.fieldLink "LayeredLauncher$Dependency" (27 : Nat) "LayeredLauncher$Dependency" "optional" "Z") ∈ gt := List.mem_filter.mpr ⟨List.mem_of_getElem? (i := 334) (by decide +kernel), by decide +kernel⟩
theorem g335 : (Jvm.Cond.fieldLink "LayeredLauncher" (197 : Nat) "LayeredLauncher$Dependency" "optional" "Z") ∈ gt := List.mem_filter.mpr ⟨List.mem_of_getElem? (i := 335) (by decide +kernel), by decide +kernel⟩
theorem g336 : (Jvm.Cond.fieldLink "LayeredLauncher$Dependency" (9 : Nat) "LayeredLauncher$Dependency" "exclusions" "[J") ∈ gt := List.mem_filter.mpr ⟨List.mem_of_getElem? (i := 336) (by decide +kernel), by decide +kernel⟩
theorem g337 : (Jvm.Cond.fieldLink "LayeredLauncher$Dependency" (15 : Nat) "LayeredLauncher$Dependency" "exclusionCount" "I") ∈ gt := List.mem_filter.mpr ⟨List.mem_of_getElem? (i := 337) (by decide +kernel), by decide +kernel⟩
theorem g338 : (Jvm.Cond.fieldLink "LayeredLauncher" (105 : Nat) "LayeredLauncher$Dependency" "exclusionCount" "I") ∈ gt := List.mem_filter.mpr ⟨List.mem_of_getElem? (i := 338) (by decide +kernel), by decide +kernel⟩
theorem g350 : (Jvm.Cond.methodLink "LayeredLauncher" (94 : Nat) ({ cls := "LayeredLauncher$Artifact", name := "addDependency", desc := "(LLayeredLauncher$Dependency;)V" } : Jvm.MethodName)) ∈ gt := List.mem_filter.mpr ⟨List.mem_of_getElem? (i := 350) (by decide +kernel), by decide +kernel⟩
theorem g351 : (Jvm.Cond.instanceMethod ({ cls := "LayeredLauncher$Artifact", name := "addDependency", desc := "(LLayeredLauncher$Dependency;)V" } : Jvm.MethodName)) ∈ gt := List.mem_filter.mpr ⟨List.mem_of_getElem? (i := 351) (by decide +kernel), by decide +kernel⟩
theorem g352 : (Jvm.Cond.selects "LayeredLauncher$Artifact" ({ cls := "LayeredLauncher$Artifact", name := "addDependency", desc := "(LLayeredLauncher$Dependency;)V" } : Jvm.MethodName) ({ cls := "LayeredLauncher$Artifact", name := "addDependency", desc := "(LLayeredLauncher$Dependency;)V" } : Jvm.MethodName)) ∈ gt := List.mem_filter.mpr ⟨List.mem_of_getElem? (i := 352) (by decide +kernel), by decide +kernel⟩
theorem g353 : (Jvm.Cond.code ({ cls := "LayeredLauncher$Artifact", name := "addDependency", desc := "(LLayeredLauncher$Dependency;)V" } : Jvm.MethodName) prog_2_method_2_code (2 : Nat) (Option.none : Option Jvm.ClassFile.FieldType)) ∈ gt := List.mem_filter.mpr ⟨List.mem_of_getElem? (i := 353) (by decide +kernel), by decide +kernel⟩
theorem g358 : (Jvm.Cond.methodLink "LayeredLauncher" (98 : Nat) ({ cls := "LayeredLauncher$Line", name := "takeName", desc := "()J" } : Jvm.MethodName)) ∈ gt := List.mem_filter.mpr ⟨List.mem_of_getElem? (i := 358) (by decide +kernel), by decide +kernel⟩
theorem g359 : (Jvm.Cond.methodLink "LayeredLauncher" (101 : Nat) ({ cls := "LayeredLauncher$Artifact", name := "lastDependency", desc := "()LLayeredLauncher$Dependency;" } : Jvm.MethodName)) ∈ gt := List.mem_filter.mpr ⟨List.mem_of_getElem? (i := 359) (by decide +kernel), by decide +kernel⟩
theorem g360 : (Jvm.Cond.instanceMethod ({ cls := "LayeredLauncher$Artifact", name := "lastDependency", desc := "()LLayeredLauncher$Dependency;" } : Jvm.MethodName)) ∈ gt := List.mem_filter.mpr ⟨List.mem_of_getElem? (i := 360) (by decide +kernel), by decide +kernel⟩
theorem g361 : (Jvm.Cond.selects "LayeredLauncher$Artifact" ({ cls := "LayeredLauncher$Artifact", name := "lastDependency", desc := "()LLayeredLauncher$Dependency;" } : Jvm.MethodName) ({ cls := "LayeredLauncher$Artifact", name := "lastDependency", desc := "()LLayeredLauncher$Dependency;" } : Jvm.MethodName)) ∈ gt := List.mem_filter.mpr ⟨List.mem_of_getElem? (i := 361) (by decide +kernel), by decide +kernel⟩
theorem g362 : (Jvm.Cond.code ({ cls := "LayeredLauncher$Artifact", name := "lastDependency", desc := "()LLayeredLauncher$Dependency;" } : Jvm.MethodName) prog_2_method_3_code (1 : Nat) (Option.some (Jvm.ClassFile.FieldType.object "LayeredLauncher$Dependency"))) ∈ gt := List.mem_filter.mpr ⟨List.mem_of_getElem? (i := 362) (by decide +kernel), by decide +kernel⟩
theorem g363 : (Jvm.Cond.methodLink "LayeredLauncher" (108 : Nat) ({ cls := "LayeredLauncher$Dependency", name := "addExclusion", desc := "(J)V" } : Jvm.MethodName)) ∈ gt := List.mem_filter.mpr ⟨List.mem_of_getElem? (i := 363) (by decide +kernel), by decide +kernel⟩
theorem g364 : (Jvm.Cond.instanceMethod ({ cls := "LayeredLauncher$Dependency", name := "addExclusion", desc := "(J)V" } : Jvm.MethodName)) ∈ gt := List.mem_filter.mpr ⟨List.mem_of_getElem? (i := 364) (by decide +kernel), by decide +kernel⟩
theorem g365 : (Jvm.Cond.selects "LayeredLauncher$Dependency" ({ cls := "LayeredLauncher$Dependency", name := "addExclusion", desc := "(J)V" } : Jvm.MethodName) ({ cls := "LayeredLauncher$Dependency", name := "addExclusion", desc := "(J)V" } : Jvm.MethodName)) ∈ gt := List.mem_filter.mpr ⟨List.mem_of_getElem? (i := 365) (by decide +kernel), by decide +kernel⟩
theorem g366 : (Jvm.Cond.code ({ cls := "LayeredLauncher$Dependency", name := "addExclusion", desc := "(J)V" } : Jvm.MethodName) prog_3_method_2_code (3 : Nat) (Option.none : Option Jvm.ClassFile.FieldType)) ∈ gt := List.mem_filter.mpr ⟨List.mem_of_getElem? (i := 366) (by decide +kernel), by decide +kernel⟩
theorem g371 : (Jvm.Cond.methodLink "LayeredLauncher" (112 : Nat) ({ cls := "LayeredLauncher", name := "isClass", desc := "(I)Z" } : Jvm.MethodName)) ∈ gt := List.mem_filter.mpr ⟨List.mem_of_getElem? (i := 371) (by decide +kernel), by decide +kernel⟩
theorem g372 : (Jvm.Cond.static ({ cls := "LayeredLauncher", name := "isClass", desc := "(I)Z" } : Jvm.MethodName)) ∈ gt := List.mem_filter.mpr ⟨List.mem_of_getElem? (i := 372) (by decide +kernel), by decide +kernel⟩
theorem g373 : (Jvm.Cond.code ({ cls := "LayeredLauncher", name := "isClass", desc := "(I)Z" } : Jvm.MethodName) prog_1_method_23_code (1 : Nat) (Option.some Jvm.ClassFile.FieldType.boolean)) ∈ gt := List.mem_filter.mpr ⟨List.mem_of_getElem? (i := 373) (by decide +kernel), by decide +kernel⟩
theorem g374 : (Jvm.Cond.methodLink "LayeredLauncher" (116 : Nat) ({ cls := "LayeredLauncher$Artifact", name := "setClass", desc := "(IZ)V" } : Jvm.MethodName)) ∈ gt := List.mem_filter.mpr ⟨List.mem_of_getElem? (i := 374) (by decide +kernel), by decide +kernel⟩
theorem g375 : (Jvm.Cond.instanceMethod ({ cls := "LayeredLauncher$Artifact", name := "setClass", desc := "(IZ)V" } : Jvm.MethodName)) ∈ gt := List.mem_filter.mpr ⟨List.mem_of_getElem? (i := 375) (by decide +kernel), by decide +kernel⟩
theorem g376 : (Jvm.Cond.selects "LayeredLauncher$Artifact" ({ cls := "LayeredLauncher$Artifact", name := "setClass", desc := "(IZ)V" } : Jvm.MethodName) ({ cls := "LayeredLauncher$Artifact", name := "setClass", desc := "(IZ)V" } : Jvm.MethodName)) ∈ gt := List.mem_filter.mpr ⟨List.mem_of_getElem? (i := 376) (by decide +kernel), by decide +kernel⟩
theorem g377 : (Jvm.Cond.code ({ cls := "LayeredLauncher$Artifact", name := "setClass", desc := "(IZ)V" } : Jvm.MethodName) prog_2_method_4_code (3 : Nat) (Option.none : Option Jvm.ClassFile.FieldType)) ∈ gt := List.mem_filter.mpr ⟨List.mem_of_getElem? (i := 377) (by decide +kernel), by decide +kernel⟩
theorem g386 : (Jvm.Cond.methodLink "LayeredLauncher" (124 : Nat) ({ cls := "LayeredLauncher$Line", name := "take", desc := "(C)Z" } : Jvm.MethodName)) ∈ gt := List.mem_filter.mpr ⟨List.mem_of_getElem? (i := 386) (by decide +kernel), by decide +kernel⟩
theorem g391 : (Jvm.Cond.methodLink "LayeredLauncher" (134 : Nat) ({ cls := "LayeredLauncher", name := "fillDraft", desc := "(LLayeredLauncher$Artifact;)I" } : Jvm.MethodName)) ∈ gt := List.mem_filter.mpr ⟨List.mem_of_getElem? (i := 391) (by decide +kernel), by decide +kernel⟩
theorem g393 : (Jvm.Cond.instanceMethod ({ cls := "LayeredLauncher", name := "fillDraft", desc := "(LLayeredLauncher$Artifact;)I" } : Jvm.MethodName)) ∈ gt := List.mem_filter.mpr ⟨List.mem_of_getElem? (i := 393) (by decide +kernel), by decide +kernel⟩
theorem g394 : (Jvm.Cond.code ({ cls := "LayeredLauncher", name := "fillDraft", desc := "(LLayeredLauncher$Artifact;)I" } : Jvm.MethodName) prog_1_method_21_code (6 : Nat) (Option.some Jvm.ClassFile.FieldType.int)) ∈ gt := List.mem_filter.mpr ⟨List.mem_of_getElem? (i := 394) (by decide +kernel), by decide +kernel⟩
theorem g395 : (Jvm.Cond.methodLink "LayeredLauncher" (185 : Nat) ({ cls := "LayeredLauncher$EntryList", name := "begin", desc := "(LLayeredLauncher$Artifact;)V" } : Jvm.MethodName)) ∈ gt := List.mem_filter.mpr ⟨List.mem_of_getElem? (i := 395) (by decide +kernel), by decide +kernel⟩
theorem g396 : (Jvm.Cond.instanceMethod ({ cls := "LayeredLauncher$EntryList", name := "begin", desc := "(LLayeredLauncher$Artifact;)V" } : Jvm.MethodName)) ∈ gt := List.mem_filter.mpr ⟨List.mem_of_getElem? (i := 396) (by decide +kernel), by decide +kernel⟩
theorem g397 : (Jvm.Cond.selects "LayeredLauncher$EntryList" ({ cls := "LayeredLauncher$EntryList", name := "begin", desc := "(LLayeredLauncher$Artifact;)V" } : Jvm.MethodName) ({ cls := "LayeredLauncher$EntryList", name := "begin", desc := "(LLayeredLauncher$Artifact;)V" } : Jvm.MethodName)) ∈ gt := List.mem_filter.mpr ⟨List.mem_of_getElem? (i := 397) (by decide +kernel), by decide +kernel⟩
theorem g398 : (Jvm.Cond.code ({ cls := "LayeredLauncher$EntryList", name := "begin", desc := "(LLayeredLauncher$Artifact;)V" } : Jvm.MethodName) prog_4_method_2_code (2 : Nat) (Option.none : Option Jvm.ClassFile.FieldType)) ∈ gt := List.mem_filter.mpr ⟨List.mem_of_getElem? (i := 398) (by decide +kernel), by decide +kernel⟩
theorem g399 : (Jvm.Cond.methodLink "LayeredLauncher" (193 : Nat) ({ cls := "LayeredLauncher", name := "follow", desc := "(ILLayeredLauncher$Dependency;)I" } : Jvm.MethodName)) ∈ gt := List.mem_filter.mpr ⟨List.mem_of_getElem? (i := 399) (by decide +kernel), by decide +kernel⟩
theorem g401 : (Jvm.Cond.instanceMethod ({ cls := "LayeredLauncher", name := "follow", desc := "(ILLayeredLauncher$Dependency;)I" } : Jvm.MethodName)) ∈ gt := List.mem_filter.mpr ⟨List.mem_of_getElem? (i := 401) (by decide +kernel), by decide +kernel⟩
theorem g402 : (Jvm.Cond.code ({ cls := "LayeredLauncher", name := "follow", desc := "(ILLayeredLauncher$Dependency;)I" } : Jvm.MethodName) prog_1_method_22_code (5 : Nat) (Option.some Jvm.ClassFile.FieldType.int)) ∈ gt := List.mem_filter.mpr ⟨List.mem_of_getElem? (i := 402) (by decide +kernel), by decide +kernel⟩
theorem g403 : (Jvm.Cond.methodLink "LayeredLauncher" (201 : Nat) ({ cls := "LayeredLauncher$EntryList", name := "bars", desc := "(IJ)Z" } : Jvm.MethodName)) ∈ gt := List.mem_filter.mpr ⟨List.mem_of_getElem? (i := 403) (by decide +kernel), by decide +kernel⟩
theorem g404 : (Jvm.Cond.instanceMethod ({ cls := "LayeredLauncher$EntryList", name := "bars", desc := "(IJ)Z" } : Jvm.MethodName)) ∈ gt := List.mem_filter.mpr ⟨List.mem_of_getElem? (i := 404) (by decide +kernel), by decide +kernel⟩
theorem g405 : (Jvm.Cond.selects "LayeredLauncher$EntryList" ({ cls := "LayeredLauncher$EntryList", name := "bars", desc := "(IJ)Z" } : Jvm.MethodName) ({ cls := "LayeredLauncher$EntryList", name := "bars", desc := "(IJ)Z" } : Jvm.MethodName)) ∈ gt := List.mem_filter.mpr ⟨List.mem_of_getElem? (i := 405) (by decide +kernel), by decide +kernel⟩
theorem g406 : (Jvm.Cond.code ({ cls := "LayeredLauncher$EntryList", name := "bars", desc := "(IJ)Z" } : Jvm.MethodName) prog_4_method_5_code (6 : Nat) (Option.some Jvm.ClassFile.FieldType.boolean)) ∈ gt := List.mem_filter.mpr ⟨List.mem_of_getElem? (i := 406) (by decide +kernel), by decide +kernel⟩
theorem g407 : (Jvm.Cond.methodLink "LayeredLauncher$EntryList" (34 : Nat) ({ cls := "LayeredLauncher$Dependency", name := "excludes", desc := "(J)Z" } : Jvm.MethodName)) ∈ gt := List.mem_filter.mpr ⟨List.mem_of_getElem? (i := 407) (by decide +kernel), by decide +kernel⟩
theorem g408 : (Jvm.Cond.instanceMethod ({ cls := "LayeredLauncher$Dependency", name := "excludes", desc := "(J)Z" } : Jvm.MethodName)) ∈ gt := List.mem_filter.mpr ⟨List.mem_of_getElem? (i := 408) (by decide +kernel), by decide +kernel⟩
theorem g409 : (Jvm.Cond.selects "LayeredLauncher$Dependency" ({ cls := "LayeredLauncher$Dependency", name := "excludes", desc := "(J)Z" } : Jvm.MethodName) ({ cls := "LayeredLauncher$Dependency", name := "excludes", desc := "(J)Z" } : Jvm.MethodName)) ∈ gt := List.mem_filter.mpr ⟨List.mem_of_getElem? (i := 409) (by decide +kernel), by decide +kernel⟩
theorem g410 : (Jvm.Cond.code ({ cls := "LayeredLauncher$Dependency", name := "excludes", desc := "(J)Z" } : Jvm.MethodName) prog_3_method_3_code (4 : Nat) (Option.some Jvm.ClassFile.FieldType.boolean)) ∈ gt := List.mem_filter.mpr ⟨List.mem_of_getElem? (i := 410) (by decide +kernel), by decide +kernel⟩
theorem g411 : (Jvm.Cond.methodLink "LayeredLauncher" (205 : Nat) ({ cls := "LayeredLauncher$EntryList", name := "artifactNamed", desc := "(J)LLayeredLauncher$Artifact;" } : Jvm.MethodName)) ∈ gt := List.mem_filter.mpr ⟨List.mem_of_getElem? (i := 411) (by decide +kernel), by decide +kernel⟩
theorem g412 : (Jvm.Cond.instanceMethod ({ cls := "LayeredLauncher$EntryList", name := "artifactNamed", desc := "(J)LLayeredLauncher$Artifact;" } : Jvm.MethodName)) ∈ gt := List.mem_filter.mpr ⟨List.mem_of_getElem? (i := 412) (by decide +kernel), by decide +kernel⟩
theorem g413 : (Jvm.Cond.selects "LayeredLauncher$EntryList" ({ cls := "LayeredLauncher$EntryList", name := "artifactNamed", desc := "(J)LLayeredLauncher$Artifact;" } : Jvm.MethodName) ({ cls := "LayeredLauncher$EntryList", name := "artifactNamed", desc := "(J)LLayeredLauncher$Artifact;" } : Jvm.MethodName)) ∈ gt := List.mem_filter.mpr ⟨List.mem_of_getElem? (i := 413) (by decide +kernel), by decide +kernel⟩
theorem g414 : (Jvm.Cond.code ({ cls := "LayeredLauncher$EntryList", name := "artifactNamed", desc := "(J)LLayeredLauncher$Artifact;" } : Jvm.MethodName) prog_4_method_6_code (4 : Nat) (Option.some (Jvm.ClassFile.FieldType.object "LayeredLauncher$Artifact"))) ∈ gt := List.mem_filter.mpr ⟨List.mem_of_getElem? (i := 414) (by decide +kernel), by decide +kernel⟩
theorem g415 : (Jvm.Cond.methodLink "LayeredLauncher" (216 : Nat) ({ cls := "LayeredLauncher$EntryList", name := "add", desc := "(LLayeredLauncher$Artifact;ILLayeredLauncher$Dependency;)V" } : Jvm.MethodName)) ∈ gt := List.mem_filter.mpr ⟨List.mem_of_getElem? (i := 415) (by decide +kernel), by decide +kernel⟩
theorem g416 : (Jvm.Cond.instanceMethod ({ cls := "LayeredLauncher$EntryList", name := "add", desc := "(LLayeredLauncher$Artifact;ILLayeredLauncher$Dependency;)V" } : Jvm.MethodName)) ∈ gt := List.mem_filter.mpr ⟨List.mem_of_getElem? (i := 416) (by decide +kernel), by decide +kernel⟩
theorem g417 : (Jvm.Cond.selects "LayeredLauncher$EntryList" ({ cls := "LayeredLauncher$EntryList", name := "add", desc := "(LLayeredLauncher$Artifact;ILLayeredLauncher$Dependency;)V" } : Jvm.MethodName) ({ cls := "LayeredLauncher$EntryList", name := "add", desc := "(LLayeredLauncher$Artifact;ILLayeredLauncher$Dependency;)V" } : Jvm.MethodName)) ∈ gt := List.mem_filter.mpr ⟨List.mem_of_getElem? (i := 417) (by decide +kernel), by decide +kernel⟩
theorem g418 : (Jvm.Cond.code ({ cls := "LayeredLauncher$EntryList", name := "add", desc := "(LLayeredLauncher$Artifact;ILLayeredLauncher$Dependency;)V" } : Jvm.MethodName) prog_4_method_3_code (4 : Nat) (Option.none : Option Jvm.ClassFile.FieldType)) ∈ gt := List.mem_filter.mpr ⟨List.mem_of_getElem? (i := 418) (by decide +kernel), by decide +kernel⟩
theorem g427 : (Jvm.Cond.methodLink "LayeredLauncher" (141 : Nat) ({ cls := "LayeredLauncher$EntryList", name := "has", desc := "(I)Z" } : Jvm.MethodName)) ∈ gt := List.mem_filter.mpr ⟨List.mem_of_getElem? (i := 427) (by decide +kernel), by decide +kernel⟩
theorem g428 : (Jvm.Cond.instanceMethod ({ cls := "LayeredLauncher$EntryList", name := "has", desc := "(I)Z" } : Jvm.MethodName)) ∈ gt := List.mem_filter.mpr ⟨List.mem_of_getElem? (i := 428) (by decide +kernel), by decide +kernel⟩
theorem g429 : (Jvm.Cond.selects "LayeredLauncher$EntryList" ({ cls := "LayeredLauncher$EntryList", name := "has", desc := "(I)Z" } : Jvm.MethodName) ({ cls := "LayeredLauncher$EntryList", name := "has", desc := "(I)Z" } : Jvm.MethodName)) ∈ gt := List.mem_filter.mpr ⟨List.mem_of_getElem? (i := 429) (by decide +kernel), by decide +kernel⟩
theorem g430 : (Jvm.Cond.code ({ cls := "LayeredLauncher$EntryList", name := "has", desc := "(I)Z" } : Jvm.MethodName) prog_4_method_4_code (2 : Nat) (Option.some Jvm.ClassFile.FieldType.boolean)) ∈ gt := List.mem_filter.mpr ⟨List.mem_of_getElem? (i := 430) (by decide +kernel), by decide +kernel⟩
theorem g443 : (Jvm.Cond.methodLink "LayeredLauncher" (155 : Nat) ({ cls := "LayeredLauncher$EntryList", name := "deepestGiver", desc := "(II)I" } : Jvm.MethodName)) ∈ gt := List.mem_filter.mpr ⟨List.mem_of_getElem? (i := 443) (by decide +kernel), by decide +kernel⟩
theorem g444 : (Jvm.Cond.instanceMethod ({ cls := "LayeredLauncher$EntryList", name := "deepestGiver", desc := "(II)I" } : Jvm.MethodName)) ∈ gt := List.mem_filter.mpr ⟨List.mem_of_getElem? (i := 444) (by decide +kernel), by decide +kernel⟩
theorem g445 : (Jvm.Cond.selects "LayeredLauncher$EntryList" ({ cls := "LayeredLauncher$EntryList", name := "deepestGiver", desc := "(II)I" } : Jvm.MethodName) ({ cls := "LayeredLauncher$EntryList", name := "deepestGiver", desc := "(II)I" } : Jvm.MethodName)) ∈ gt := List.mem_filter.mpr ⟨List.mem_of_getElem? (i := 445) (by decide +kernel), by decide +kernel⟩
theorem g446 : (Jvm.Cond.code ({ cls := "LayeredLauncher$EntryList", name := "deepestGiver", desc := "(II)I" } : Jvm.MethodName) prog_4_method_7_code (6 : Nat) (Option.some Jvm.ClassFile.FieldType.int)) ∈ gt := List.mem_filter.mpr ⟨List.mem_of_getElem? (i := 446) (by decide +kernel), by decide +kernel⟩
theorem g447 : (Jvm.Cond.methodLink "LayeredLauncher$EntryList" (42 : Nat) ({ cls := "LayeredLauncher$Artifact", name := "hasClass", desc := "(I)Z" } : Jvm.MethodName)) ∈ gt := List.mem_filter.mpr ⟨List.mem_of_getElem? (i := 447) (by decide +kernel), by decide +kernel⟩
theorem g448 : (Jvm.Cond.instanceMethod ({ cls := "LayeredLauncher$Artifact", name := "hasClass", desc := "(I)Z" } : Jvm.MethodName)) ∈ gt := List.mem_filter.mpr ⟨List.mem_of_getElem? (i := 448) (by decide +kernel), by decide +kernel⟩
theorem g449 : (Jvm.Cond.selects "LayeredLauncher$Artifact" ({ cls := "LayeredLauncher$Artifact", name := "hasClass", desc := "(I)Z" } : Jvm.MethodName) ({ cls := "LayeredLauncher$Artifact", name := "hasClass", desc := "(I)Z" } : Jvm.MethodName)) ∈ gt := List.mem_filter.mpr ⟨List.mem_of_getElem? (i := 449) (by decide +kernel), by decide +kernel⟩
theorem g450 : (Jvm.Cond.code ({ cls := "LayeredLauncher$Artifact", name := "hasClass", desc := "(I)Z" } : Jvm.MethodName) prog_2_method_5_code (2 : Nat) (Option.some Jvm.ClassFile.FieldType.boolean)) ∈ gt := List.mem_filter.mpr ⟨List.mem_of_getElem? (i := 450) (by decide +kernel), by decide +kernel⟩
theorem g459 : (Jvm.Cond.methodLink "LayeredLauncher" (163 : Nat) ({ cls := "LayeredLauncher", name := "retiredArtifacts", desc := "()I" } : Jvm.MethodName)) ∈ gt := List.mem_filter.mpr ⟨List.mem_of_getElem? (i := 459) (by decide +kernel), by decide +kernel⟩
theorem g461 : (Jvm.Cond.instanceMethod ({ cls := "LayeredLauncher", name := "retiredArtifacts", desc := "()I" } : Jvm.MethodName)) ∈ gt := List.mem_filter.mpr ⟨List.mem_of_getElem? (i := 461) (by decide +kernel), by decide +kernel⟩
theorem g462 : (Jvm.Cond.code ({ cls := "LayeredLauncher", name := "retiredArtifacts", desc := "()I" } : Jvm.MethodName) prog_1_method_19_code (3 : Nat) (Option.some Jvm.ClassFile.FieldType.int)) ∈ gt := List.mem_filter.mpr ⟨List.mem_of_getElem? (i := 462) (by decide +kernel), by decide +kernel⟩
theorem g463 : (Jvm.Cond.methodLink "LayeredLauncher" (167 : Nat) ({ cls := "LayeredLauncher$EntryList", name := "greatestDepth", desc := "()I" } : Jvm.MethodName)) ∈ gt := List.mem_filter.mpr ⟨List.mem_of_getElem? (i := 463) (by decide +kernel), by decide +kernel⟩
theorem g464 : (Jvm.Cond.instanceMethod ({ cls := "LayeredLauncher$EntryList", name := "greatestDepth", desc := "()I" } : Jvm.MethodName)) ∈ gt := List.mem_filter.mpr ⟨List.mem_of_getElem? (i := 464) (by decide +kernel), by decide +kernel⟩
theorem g465 : (Jvm.Cond.selects "LayeredLauncher$EntryList" ({ cls := "LayeredLauncher$EntryList", name := "greatestDepth", desc := "()I" } : Jvm.MethodName) ({ cls := "LayeredLauncher$EntryList", name := "greatestDepth", desc := "()I" } : Jvm.MethodName)) ∈ gt := List.mem_filter.mpr ⟨List.mem_of_getElem? (i := 465) (by decide +kernel), by decide +kernel⟩
theorem g466 : (Jvm.Cond.code ({ cls := "LayeredLauncher$EntryList", name := "greatestDepth", desc := "()I" } : Jvm.MethodName) prog_4_method_8_code (3 : Nat) (Option.some Jvm.ClassFile.FieldType.int)) ∈ gt := List.mem_filter.mpr ⟨List.mem_of_getElem? (i := 466) (by decide +kernel), by decide +kernel⟩
theorem g467 : (Jvm.Cond.methodLink "LayeredLauncher$EntryList" (46 : Nat) ({ cls := "java/lang/Math", name := "max", desc := "(II)I" } : Jvm.MethodName)) ∈ gt := List.mem_filter.mpr ⟨List.mem_of_getElem? (i := 467) (by decide +kernel), by decide +kernel⟩
theorem g468 : (Jvm.Cond.static ({ cls := "java/lang/Math", name := "max", desc := "(II)I" } : Jvm.MethodName)) ∈ gt := List.mem_filter.mpr ⟨List.mem_of_getElem? (i := 468) (by decide +kernel), by decide +kernel⟩
theorem g469 : (Jvm.Cond.code ({ cls := "java/lang/Math", name := "max", desc := "(II)I" } : Jvm.MethodName) prog_11_method_65_code (2 : Nat) (Option.some Jvm.ClassFile.FieldType.int)) ∈ gt := List.mem_filter.mpr ⟨List.mem_of_getElem? (i := 469) (by decide +kernel), by decide +kernel⟩
theorem g470 : (Jvm.Cond.methodLink "LayeredLauncher" (170 : Nat) ({ cls := "LayeredLauncher$EntryList", name := "sharedClasses", desc := "()I" } : Jvm.MethodName)) ∈ gt := List.mem_filter.mpr ⟨List.mem_of_getElem? (i := 470) (by decide +kernel), by decide +kernel⟩
theorem g471 : (Jvm.Cond.instanceMethod ({ cls := "LayeredLauncher$EntryList", name := "sharedClasses", desc := "()I" } : Jvm.MethodName)) ∈ gt := List.mem_filter.mpr ⟨List.mem_of_getElem? (i := 471) (by decide +kernel), by decide +kernel⟩
theorem g472 : (Jvm.Cond.selects "LayeredLauncher$EntryList" ({ cls := "LayeredLauncher$EntryList", name := "sharedClasses", desc := "()I" } : Jvm.MethodName) ({ cls := "LayeredLauncher$EntryList", name := "sharedClasses", desc := "()I" } : Jvm.MethodName)) ∈ gt := List.mem_filter.mpr ⟨List.mem_of_getElem? (i := 472) (by decide +kernel), by decide +kernel⟩
theorem g473 : (Jvm.Cond.code ({ cls := "LayeredLauncher$EntryList", name := "sharedClasses", desc := "()I" } : Jvm.MethodName) prog_4_method_9_code (4 : Nat) (Option.some Jvm.ClassFile.FieldType.int)) ∈ gt := List.mem_filter.mpr ⟨List.mem_of_getElem? (i := 473) (by decide +kernel), by decide +kernel⟩
theorem g474 : (Jvm.Cond.methodLink "LayeredLauncher$EntryList" (55 : Nat) ({ cls := "java/lang/Integer", name := "bitCount", desc := "(I)I" } : Jvm.MethodName)) ∈ gt := List.mem_filter.mpr ⟨List.mem_of_getElem? (i := 474) (by decide +kernel), by decide +kernel⟩
theorem g475 : (Jvm.Cond.static ({ cls := "java/lang/Integer", name := "bitCount", desc := "(I)I" } : Jvm.MethodName)) ∈ gt := List.mem_filter.mpr ⟨List.mem_of_getElem? (i := 475) (by decide +kernel), by decide +kernel⟩
theorem g476 : (Jvm.Cond.code ({ cls := "java/lang/Integer", name := "bitCount", desc := "(I)I" } : Jvm.MethodName) prog_10_method_49_code (1 : Nat) (Option.some Jvm.ClassFile.FieldType.int)) ∈ gt := List.mem_filter.mpr ⟨List.mem_of_getElem? (i := 476) (by decide +kernel), by decide +kernel⟩
theorem g477 : (Jvm.Cond.constant "java/lang/Integer" (265 : Nat) (1431655765 : Int32)) ∈ gt := List.mem_filter.mpr ⟨List.mem_of_getElem? (i := 477) (by decide +kernel), by decide +kernel⟩
theorem g478 : (Jvm.Cond.constant "java/lang/Integer" (266 : Nat) (858993459 : Int32)) ∈ gt := List.mem_filter.mpr ⟨List.mem_of_getElem? (i := 478) (by decide +kernel), by decide +kernel⟩
theorem g479 : (Jvm.Cond.constant "java/lang/Integer" (267 : Nat) (252645135 : Int32)) ∈ gt := List.mem_filter.mpr ⟨List.mem_of_getElem? (i := 479) (by decide +kernel), by decide +kernel⟩
theorem g485 : (Jvm.Cond.methodLink "LayeredLauncherModel" (1 : Nat) ({ cls := "java/lang/Object", name := "<init>", desc := "()V" } : Jvm.MethodName)) ∈ gt := List.mem_filter.mpr ⟨List.mem_of_getElem? (i := 485) (by decide +kernel), by decide +kernel⟩
theorem g486 : (Jvm.Cond.fieldLink "LayeredLauncherModel" (7 : Nat) "LayeredLauncherModel" "typed" "I") ∈ gt := List.mem_filter.mpr ⟨List.mem_of_getElem? (i := 486) (by decide +kernel), by decide +kernel⟩
theorem g487 : (Jvm.Cond.fieldLink "LayeredLauncherModel" (13 : Nat) "LayeredLauncherModel" "line" "[I") ∈ gt := List.mem_filter.mpr ⟨List.mem_of_getElem? (i := 487) (by decide +kernel), by decide +kernel⟩
theorem g488 : (Jvm.Cond.fieldLink "LayeredLauncherModel" (17 : Nat) "LayeredLauncherModel" "n" "I") ∈ gt := List.mem_filter.mpr ⟨List.mem_of_getElem? (i := 488) (by decide +kernel), by decide +kernel⟩
theorem g489 : (Jvm.Cond.fieldLink "LayeredLauncherModel" (20 : Nat) "LayeredLauncherModel" "t" "[I") ∈ gt := List.mem_filter.mpr ⟨List.mem_of_getElem? (i := 489) (by decide +kernel), by decide +kernel⟩
theorem g490 : (Jvm.Cond.fieldLink "LayeredLauncherModel" (23 : Nat) "LayeredLauncherModel" "artifacts" "I") ∈ gt := List.mem_filter.mpr ⟨List.mem_of_getElem? (i := 490) (by decide +kernel), by decide +kernel⟩
theorem g491 : (Jvm.Cond.fieldLink "LayeredLauncherModel" (26 : Nat) "LayeredLauncherModel" "textLength" "[I") ∈ gt := List.mem_filter.mpr ⟨List.mem_of_getElem? (i := 491) (by decide +kernel), by decide +kernel⟩
theorem g492 : (Jvm.Cond.fieldLink "LayeredLauncherModel" (29 : Nat) "LayeredLauncherModel" "text" "[I") ∈ gt := List.mem_filter.mpr ⟨List.mem_of_getElem? (i := 492) (by decide +kernel), by decide +kernel⟩
theorem g493 : (Jvm.Cond.fieldLink "LayeredLauncherModel" (32 : Nat) "LayeredLauncherModel" "colon" "[I") ∈ gt := List.mem_filter.mpr ⟨List.mem_of_getElem? (i := 493) (by decide +kernel), by decide +kernel⟩
theorem g494 : (Jvm.Cond.fieldLink "LayeredLauncherModel" (35 : Nat) "LayeredLauncherModel" "retired" "[Z") ∈ gt := List.mem_filter.mpr ⟨List.mem_of_getElem? (i := 494) (by decide +kernel), by decide +kernel⟩
theorem g495 : (Jvm.Cond.fieldLink "LayeredLauncherModel" (39 : Nat) "LayeredLauncherModel" "classes" "[I") ∈ gt := List.mem_filter.mpr ⟨List.mem_of_getElem? (i := 495) (by decide +kernel), by decide +kernel⟩
theorem g496 : (Jvm.Cond.fieldLink "LayeredLauncherModel" (42 : Nat) "LayeredLauncherModel" "deps" "[I") ∈ gt := List.mem_filter.mpr ⟨List.mem_of_getElem? (i := 496) (by decide +kernel), by decide +kernel⟩
theorem g497 : (Jvm.Cond.fieldLink "LayeredLauncherModel" (45 : Nat) "LayeredLauncherModel" "optional" "[Z") ∈ gt := List.mem_filter.mpr ⟨List.mem_of_getElem? (i := 497) (by decide +kernel), by decide +kernel⟩
theorem g498 : (Jvm.Cond.fieldLink "LayeredLauncherModel" (48 : Nat) "LayeredLauncherModel" "depLength" "[I") ∈ gt := List.mem_filter.mpr ⟨List.mem_of_getElem? (i := 498) (by decide +kernel), by decide +kernel⟩
theorem g499 : (Jvm.Cond.fieldLink "LayeredLauncherModel" (51 : Nat) "LayeredLauncherModel" "depText" "[I") ∈ gt := List.mem_filter.mpr ⟨List.mem_of_getElem? (i := 499) (by decide +kernel), by decide +kernel⟩
theorem g500 : (Jvm.Cond.fieldLink "LayeredLauncherModel" (54 : Nat) "LayeredLauncherModel" "exclusions" "[I") ∈ gt := List.mem_filter.mpr ⟨List.mem_of_getElem? (i := 500) (by decide +kernel), by decide +kernel⟩
theorem g501 : (Jvm.Cond.fieldLink "LayeredLauncherModel" (57 : Nat) "LayeredLauncherModel" "exLength" "[I") ∈ gt := List.mem_filter.mpr ⟨List.mem_of_getElem? (i := 501) (by decide +kernel), by decide +kernel⟩
theorem g502 : (Jvm.Cond.fieldLink "LayeredLauncherModel" (60 : Nat) "LayeredLauncherModel" "exText" "[I") ∈ gt := List.mem_filter.mpr ⟨List.mem_of_getElem? (i := 502) (by decide +kernel), by decide +kernel⟩
theorem g503 : (Jvm.Cond.fieldLink "LayeredLauncherModel" (63 : Nat) "LayeredLauncherModel" "culprit" "I") ∈ gt := List.mem_filter.mpr ⟨List.mem_of_getElem? (i := 503) (by decide +kernel), by decide +kernel⟩
theorem g504 : (Jvm.Cond.fieldLink "LayeredLauncherModel" (66 : Nat) "LayeredLauncherModel" "result" "I") ∈ gt := List.mem_filter.mpr ⟨List.mem_of_getElem? (i := 504) (by decide +kernel), by decide +kernel⟩
theorem g505 : (Jvm.Cond.fieldLink "LayeredLauncherModel" (69 : Nat) "LayeredLauncherModel" "making" "I") ∈ gt := List.mem_filter.mpr ⟨List.mem_of_getElem? (i := 505) (by decide +kernel), by decide +kernel⟩
theorem g506 : (Jvm.Cond.fieldLink "LayeredLauncherModel" (72 : Nat) "LayeredLauncherModel" "art" "[I") ∈ gt := List.mem_filter.mpr ⟨List.mem_of_getElem? (i := 506) (by decide +kernel), by decide +kernel⟩
theorem g507 : (Jvm.Cond.fieldLink "LayeredLauncherModel" (75 : Nat) "LayeredLauncherModel" "deep" "[I") ∈ gt := List.mem_filter.mpr ⟨List.mem_of_getElem? (i := 507) (by decide +kernel), by decide +kernel⟩
theorem g508 : (Jvm.Cond.fieldLink "LayeredLauncherModel" (78 : Nat) "LayeredLauncherModel" "from" "[I") ∈ gt := List.mem_filter.mpr ⟨List.mem_of_getElem? (i := 508) (by decide +kernel), by decide +kernel⟩
theorem g509 : (Jvm.Cond.fieldLink "LayeredLauncherModel" (81 : Nat) "LayeredLauncherModel" "by" "[I") ∈ gt := List.mem_filter.mpr ⟨List.mem_of_getElem? (i := 509) (by decide +kernel), by decide +kernel⟩
theorem g510 : (Jvm.Cond.fieldLink "LayeredLauncherModel" (84 : Nat) "LayeredLauncherModel" "va" "[I") ∈ gt := List.mem_filter.mpr ⟨List.mem_of_getElem? (i := 510) (by decide +kernel), by decide +kernel⟩
theorem g511 : (Jvm.Cond.fieldLink "LayeredLauncherModel" (87 : Nat) "LayeredLauncherModel" "na" "I") ∈ gt := List.mem_filter.mpr ⟨List.mem_of_getElem? (i := 511) (by decide +kernel), by decide +kernel⟩
theorem g512 : (Jvm.Cond.fieldLink "LayeredLauncherModel" (90 : Nat) "LayeredLauncherModel" "vb" "[I") ∈ gt := List.mem_filter.mpr ⟨List.mem_of_getElem? (i := 512) (by decide +kernel), by decide +kernel⟩
theorem g513 : (Jvm.Cond.fieldLink "LayeredLauncherModel" (93 : Nat) "LayeredLauncherModel" "nb" "I") ∈ gt := List.mem_filter.mpr ⟨List.mem_of_getElem? (i := 513) (by decide +kernel), by decide +kernel⟩
theorem g514 : (Jvm.Cond.fieldLink "LayeredLauncherModel" (96 : Nat) "LayeredLauncherModel" "end" "I") ∈ gt := List.mem_filter.mpr ⟨List.mem_of_getElem? (i := 514) (by decide +kernel), by decide +kernel⟩
theorem g574 : (Jvm.Cond.arrayClass Jvm.ClassFile.FieldType.boolean) ∈ gt := List.mem_filter.mpr ⟨List.mem_of_getElem? (i := 574) (by decide +kernel), by decide +kernel⟩
theorem g587 : (Jvm.Cond.methodLink "LayeredLauncherModel" (158 : Nat) ({ cls := "LayeredLauncherModel", name := "take", desc := "()V" } : Jvm.MethodName)) ∈ gt := List.mem_filter.mpr ⟨List.mem_of_getElem? (i := 587) (by decide +kernel), by decide +kernel⟩
theorem g589 : (Jvm.Cond.instanceMethod ({ cls := "LayeredLauncherModel", name := "take", desc := "()V" } : Jvm.MethodName)) ∈ gt := List.mem_filter.mpr ⟨List.mem_of_getElem? (i := 589) (by decide +kernel), by decide +kernel⟩
theorem g590 : (Jvm.Cond.code ({ cls := "LayeredLauncherModel", name := "take", desc := "()V" } : Jvm.MethodName) prog_9_method_4_code (2 : Nat) (Option.none : Option Jvm.ClassFile.FieldType)) ∈ gt := List.mem_filter.mpr ⟨List.mem_of_getElem? (i := 590) (by decide +kernel), by decide +kernel⟩
theorem g591 : (Jvm.Cond.methodLink "LayeredLauncherModel" (146 : Nat) ({ cls := "LayeredLauncherModel", name := "colonAt", desc := "()I" } : Jvm.MethodName)) ∈ gt := List.mem_filter.mpr ⟨List.mem_of_getElem? (i := 591) (by decide +kernel), by decide +kernel⟩
theorem g593 : (Jvm.Cond.instanceMethod ({ cls := "LayeredLauncherModel", name := "colonAt", desc := "()I" } : Jvm.MethodName)) ∈ gt := List.mem_filter.mpr ⟨List.mem_of_getElem? (i := 593) (by decide +kernel), by decide +kernel⟩
theorem g594 : (Jvm.Cond.code ({ cls := "LayeredLauncherModel", name := "colonAt", desc := "()I" } : Jvm.MethodName) prog_9_method_6_code (2 : Nat) (Option.some Jvm.ClassFile.FieldType.int)) ∈ gt := List.mem_filter.mpr ⟨List.mem_of_getElem? (i := 594) (by decide +kernel), by decide +kernel⟩
theorem g595 : (Jvm.Cond.methodLink "LayeredLauncherModel" (161 : Nat) ({ cls := "LayeredLauncherModel", name := "isName", desc := "(II)Z" } : Jvm.MethodName)) ∈ gt := List.mem_filter.mpr ⟨List.mem_of_getElem? (i := 595) (by decide +kernel), by decide +kernel⟩
theorem g597 : (Jvm.Cond.instanceMethod ({ cls := "LayeredLauncherModel", name := "isName", desc := "(II)Z" } : Jvm.MethodName)) ∈ gt := List.mem_filter.mpr ⟨List.mem_of_getElem? (i := 597) (by decide +kernel), by decide +kernel⟩
theorem g598 : (Jvm.Cond.code ({ cls := "LayeredLauncherModel", name := "isName", desc := "(II)Z" } : Jvm.MethodName) prog_9_method_7_code (4 : Nat) (Option.some Jvm.ClassFile.FieldType.boolean)) ∈ gt := List.mem_filter.mpr ⟨List.mem_of_getElem? (i := 598) (by decide +kernel), by decide +kernel⟩
theorem g599 : (Jvm.Cond.methodLink "LayeredLauncherModel" (106 : Nat) ({ cls := "LayeredLauncherModel", name := "isVersion", desc := "(II)Z" } : Jvm.MethodName)) ∈ gt := List.mem_filter.mpr ⟨List.mem_of_getElem? (i := 599) (by decide +kernel), by decide +kernel⟩
theorem g601 : (Jvm.Cond.instanceMethod ({ cls := "LayeredLauncherModel", name := "isVersion", desc := "(II)Z" } : Jvm.MethodName)) ∈ gt := List.mem_filter.mpr ⟨List.mem_of_getElem? (i := 601) (by decide +kernel), by decide +kernel⟩
theorem g602 : (Jvm.Cond.code ({ cls := "LayeredLauncherModel", name := "isVersion", desc := "(II)Z" } : Jvm.MethodName) prog_9_method_10_code (5 : Nat) (Option.some Jvm.ClassFile.FieldType.boolean)) ∈ gt := List.mem_filter.mpr ⟨List.mem_of_getElem? (i := 602) (by decide +kernel), by decide +kernel⟩
theorem g603 : (Jvm.Cond.methodLink "LayeredLauncherModel" (99 : Nat) ({ cls := "LayeredLauncherModel", name := "isDigit", desc := "(I)Z" } : Jvm.MethodName)) ∈ gt := List.mem_filter.mpr ⟨List.mem_of_getElem? (i := 603) (by decide +kernel), by decide +kernel⟩
theorem g605 : (Jvm.Cond.instanceMethod ({ cls := "LayeredLauncherModel", name := "isDigit", desc := "(I)Z" } : Jvm.MethodName)) ∈ gt := List.mem_filter.mpr ⟨List.mem_of_getElem? (i := 605) (by decide +kernel), by decide +kernel⟩
theorem g606 : (Jvm.Cond.code ({ cls := "LayeredLauncherModel", name := "isDigit", desc := "(I)Z" } : Jvm.MethodName) prog_9_method_8_code (2 : Nat) (Option.some Jvm.ClassFile.FieldType.boolean)) ∈ gt := List.mem_filter.mpr ⟨List.mem_of_getElem? (i := 606) (by decide +kernel), by decide +kernel⟩
theorem g607 : (Jvm.Cond.methodLink "LayeredLauncherModel" (103 : Nat) ({ cls := "LayeredLauncherModel", name := "isMark", desc := "(I)Z" } : Jvm.MethodName)) ∈ gt := List.mem_filter.mpr ⟨List.mem_of_getElem? (i := 607) (by decide +kernel), by decide +kernel⟩
theorem g609 : (Jvm.Cond.instanceMethod ({ cls := "LayeredLauncherModel", name := "isMark", desc := "(I)Z" } : Jvm.MethodName)) ∈ gt := List.mem_filter.mpr ⟨List.mem_of_getElem? (i := 609) (by decide +kernel), by decide +kernel⟩
theorem g610 : (Jvm.Cond.code ({ cls := "LayeredLauncherModel", name := "isMark", desc := "(I)Z" } : Jvm.MethodName) prog_9_method_9_code (2 : Nat) (Option.some Jvm.ClassFile.FieldType.boolean)) ∈ gt := List.mem_filter.mpr ⟨List.mem_of_getElem? (i := 610) (by decide +kernel), by decide +kernel⟩
theorem g611 : (Jvm.Cond.methodLink "LayeredLauncherModel" (149 : Nat) ({ cls := "LayeredLauncherModel", name := "hasName", desc := "(II)Z" } : Jvm.MethodName)) ∈ gt := List.mem_filter.mpr ⟨List.mem_of_getElem? (i := 611) (by decide +kernel), by decide +kernel⟩
theorem g613 : (Jvm.Cond.instanceMethod ({ cls := "LayeredLauncherModel", name := "hasName", desc := "(II)Z" } : Jvm.MethodName)) ∈ gt := List.mem_filter.mpr ⟨List.mem_of_getElem? (i := 613) (by decide +kernel), by decide +kernel⟩
theorem g614 : (Jvm.Cond.code ({ cls := "LayeredLauncherModel", name := "hasName", desc := "(II)Z" } : Jvm.MethodName) prog_9_method_21_code (4 : Nat) (Option.some Jvm.ClassFile.FieldType.boolean)) ∈ gt := List.mem_filter.mpr ⟨List.mem_of_getElem? (i := 614) (by decide +kernel), by decide +kernel⟩
theorem g615 : (Jvm.Cond.methodLink "LayeredLauncherModel" (142 : Nat) ({ cls := "LayeredLauncherModel", name := "orderTo", desc := "(III)I" } : Jvm.MethodName)) ∈ gt := List.mem_filter.mpr ⟨List.mem_of_getElem? (i := 615) (by decide +kernel), by decide +kernel⟩
theorem g617 : (Jvm.Cond.instanceMethod ({ cls := "LayeredLauncherModel", name := "orderTo", desc := "(III)I" } : Jvm.MethodName)) ∈ gt := List.mem_filter.mpr ⟨List.mem_of_getElem? (i := 617) (by decide +kernel), by decide +kernel⟩
theorem g618 : (Jvm.Cond.code ({ cls := "LayeredLauncherModel", name := "orderTo", desc := "(III)I" } : Jvm.MethodName) prog_9_method_19_code (4 : Nat) (Option.some Jvm.ClassFile.FieldType.int)) ∈ gt := List.mem_filter.mpr ⟨List.mem_of_getElem? (i := 618) (by decide +kernel), by decide +kernel⟩
theorem g619 : (Jvm.Cond.methodLink "LayeredLauncherModel" (130 : Nat) ({ cls := "LayeredLauncherModel", name := "firstIs", desc := "(I)V" } : Jvm.MethodName)) ∈ gt := List.mem_filter.mpr ⟨List.mem_of_getElem? (i := 619) (by decide +kernel), by decide +kernel⟩
theorem g621 : (Jvm.Cond.instanceMethod ({ cls := "LayeredLauncherModel", name := "firstIs", desc := "(I)V" } : Jvm.MethodName)) ∈ gt := List.mem_filter.mpr ⟨List.mem_of_getElem? (i := 621) (by decide +kernel), by decide +kernel⟩
theorem g622 : (Jvm.Cond.code ({ cls := "LayeredLauncherModel", name := "firstIs", desc := "(I)V" } : Jvm.MethodName) prog_9_method_17_code (3 : Nat) (Option.none : Option Jvm.ClassFile.FieldType)) ∈ gt := List.mem_filter.mpr ⟨List.mem_of_getElem? (i := 622) (by decide +kernel), by decide +kernel⟩
theorem g623 : (Jvm.Cond.methodLink "LayeredLauncherModel" (134 : Nat) ({ cls := "LayeredLauncherModel", name := "secondIs", desc := "(II)V" } : Jvm.MethodName)) ∈ gt := List.mem_filter.mpr ⟨List.mem_of_getElem? (i := 623) (by decide +kernel), by decide +kernel⟩
theorem g625 : (Jvm.Cond.instanceMethod ({ cls := "LayeredLauncherModel", name := "secondIs", desc := "(II)V" } : Jvm.MethodName)) ∈ gt := List.mem_filter.mpr ⟨List.mem_of_getElem? (i := 625) (by decide +kernel), by decide +kernel⟩
theorem g626 : (Jvm.Cond.code ({ cls := "LayeredLauncherModel", name := "secondIs", desc := "(II)V" } : Jvm.MethodName) prog_9_method_18_code (4 : Nat) (Option.none : Option Jvm.ClassFile.FieldType)) ∈ gt := List.mem_filter.mpr ⟨List.mem_of_getElem? (i := 626) (by decide +kernel), by decide +kernel⟩
theorem g627 : (Jvm.Cond.methodLink "LayeredLauncherModel" (138 : Nat) ({ cls := "LayeredLauncherModel", name := "order", desc := "()I" } : Jvm.MethodName)) ∈ gt := List.mem_filter.mpr ⟨List.mem_of_getElem? (i := 627) (by decide +kernel), by decide +kernel⟩
theorem g629 : (Jvm.Cond.instanceMethod ({ cls := "LayeredLauncherModel", name := "order", desc := "()I" } : Jvm.MethodName)) ∈ gt := List.mem_filter.mpr ⟨List.mem_of_getElem? (i := 629) (by decide +kernel), by decide +kernel⟩
theorem g630 : (Jvm.Cond.code ({ cls := "LayeredLauncherModel", name := "order", desc := "()I" } : Jvm.MethodName) prog_9_method_16_code (7 : Nat) (Option.some Jvm.ClassFile.FieldType.int)) ∈ gt := List.mem_filter.mpr ⟨List.mem_of_getElem? (i := 630) (by decide +kernel), by decide +kernel⟩
theorem g631 : (Jvm.Cond.methodLink "LayeredLauncherModel" (122 : Nat) ({ cls := "LayeredLauncherModel", name := "number", desc := "(ZI)J" } : Jvm.MethodName)) ∈ gt := List.mem_filter.mpr ⟨List.mem_of_getElem? (i := 631) (by decide +kernel), by decide +kernel⟩
theorem g633 : (Jvm.Cond.instanceMethod ({ cls := "LayeredLauncherModel", name := "number", desc := "(ZI)J" } : Jvm.MethodName)) ∈ gt := List.mem_filter.mpr ⟨List.mem_of_getElem? (i := 633) (by decide +kernel), by decide +kernel⟩
theorem g634 : (Jvm.Cond.code ({ cls := "LayeredLauncherModel", name := "number", desc := "(ZI)J" } : Jvm.MethodName) prog_9_method_14_code (8 : Nat) (Option.some Jvm.ClassFile.FieldType.long)) ∈ gt := List.mem_filter.mpr ⟨List.mem_of_getElem? (i := 634) (by decide +kernel), by decide +kernel⟩
theorem g635 : (Jvm.Cond.methodLink "LayeredLauncherModel" (114 : Nat) ({ cls := "LayeredLauncherModel", name := "part", desc := "(ZI)I" } : Jvm.MethodName)) ∈ gt := List.mem_filter.mpr ⟨List.mem_of_getElem? (i := 635) (by decide +kernel), by decide +kernel⟩
theorem g637 : (Jvm.Cond.instanceMethod ({ cls := "LayeredLauncherModel", name := "part", desc := "(ZI)I" } : Jvm.MethodName)) ∈ gt := List.mem_filter.mpr ⟨List.mem_of_getElem? (i := 637) (by decide +kernel), by decide +kernel⟩
theorem g638 : (Jvm.Cond.code ({ cls := "LayeredLauncherModel", name := "part", desc := "(ZI)I" } : Jvm.MethodName) prog_9_method_13_code (9 : Nat) (Option.some Jvm.ClassFile.FieldType.int)) ∈ gt := List.mem_filter.mpr ⟨List.mem_of_getElem? (i := 638) (by decide +kernel), by decide +kernel⟩
theorem g639 : (Jvm.Cond.constantLong "LayeredLauncherModel" (118 : Nat) (-1 : Int64)) ∈ gt := List.mem_filter.mpr ⟨List.mem_of_getElem? (i := 639) (by decide +kernel), by decide +kernel⟩
theorem g640 : (Jvm.Cond.constantLong "LayeredLauncherModel" (120 : Nat) (10 : Int64)) ∈ gt := List.mem_filter.mpr ⟨List.mem_of_getElem? (i := 640) (by decide +kernel), by decide +kernel⟩
theorem g641 : (Jvm.Cond.methodLink "LayeredLauncherModel" (126 : Nat) ({ cls := "LayeredLauncherModel", name := "orderOfWords", desc := "(I)I" } : Jvm.MethodName)) ∈ gt := List.mem_filter.mpr ⟨List.mem_of_getElem? (i := 641) (by decide +kernel), by decide +kernel⟩
theorem g643 : (Jvm.Cond.instanceMethod ({ cls := "LayeredLauncherModel", name := "orderOfWords", desc := "(I)I" } : Jvm.MethodName)) ∈ gt := List.mem_filter.mpr ⟨List.mem_of_getElem? (i := 643) (by decide +kernel), by decide +kernel⟩
theorem g644 : (Jvm.Cond.code ({ cls := "LayeredLauncherModel", name := "orderOfWords", desc := "(I)I" } : Jvm.MethodName) prog_9_method_15_code (8 : Nat) (Option.some Jvm.ClassFile.FieldType.int)) ∈ gt := List.mem_filter.mpr ⟨List.mem_of_getElem? (i := 644) (by decide +kernel), by decide +kernel⟩
theorem g649 : (Jvm.Cond.methodLink "LayeredLauncherModel" (164 : Nat) ({ cls := "LayeredLauncherModel", name := "none", desc := "(I)Z" } : Jvm.MethodName)) ∈ gt := List.mem_filter.mpr ⟨List.mem_of_getElem? (i := 649) (by decide +kernel), by decide +kernel⟩
theorem g651 : (Jvm.Cond.instanceMethod ({ cls := "LayeredLauncherModel", name := "none", desc := "(I)Z" } : Jvm.MethodName)) ∈ gt := List.mem_filter.mpr ⟨List.mem_of_getElem? (i := 651) (by decide +kernel), by decide +kernel⟩
theorem g652 : (Jvm.Cond.code ({ cls := "LayeredLauncherModel", name := "none", desc := "(I)Z" } : Jvm.MethodName) prog_9_method_25_code (2 : Nat) (Option.some Jvm.ClassFile.FieldType.boolean)) ∈ gt := List.mem_filter.mpr ⟨List.mem_of_getElem? (i := 652) (by decide +kernel), by decide +kernel⟩
theorem g653 : (Jvm.Cond.methodLink "LayeredLauncherModel" (167 : Nat) ({ cls := "LayeredLauncherModel", name := "isRange", desc := "(II)Z" } : Jvm.MethodName)) ∈ gt := List.mem_filter.mpr ⟨List.mem_of_getElem? (i := 653) (by decide +kernel), by decide +kernel⟩
theorem g655 : (Jvm.Cond.instanceMethod ({ cls := "LayeredLauncherModel", name := "isRange", desc := "(II)Z" } : Jvm.MethodName)) ∈ gt := List.mem_filter.mpr ⟨List.mem_of_getElem? (i := 655) (by decide +kernel), by decide +kernel⟩
theorem g656 : (Jvm.Cond.code ({ cls := "LayeredLauncherModel", name := "isRange", desc := "(II)Z" } : Jvm.MethodName) prog_9_method_12_code (4 : Nat) (Option.some Jvm.ClassFile.FieldType.boolean)) ∈ gt := List.mem_filter.mpr ⟨List.mem_of_getElem? (i := 656) (by decide +kernel), by decide +kernel⟩
theorem g657 : (Jvm.Cond.methodLink "LayeredLauncherModel" (110 : Nat) ({ cls := "LayeredLauncherModel", name := "commaIn", desc := "(II)I" } : Jvm.MethodName)) ∈ gt := List.mem_filter.mpr ⟨List.mem_of_getElem? (i := 657) (by decide +kernel), by decide +kernel⟩
theorem g659 : (Jvm.Cond.instanceMethod ({ cls := "LayeredLauncherModel", name := "commaIn", desc := "(II)I" } : Jvm.MethodName)) ∈ gt := List.mem_filter.mpr ⟨List.mem_of_getElem? (i := 659) (by decide +kernel), by decide +kernel⟩
theorem g660 : (Jvm.Cond.code ({ cls := "LayeredLauncherModel", name := "commaIn", desc := "(II)I" } : Jvm.MethodName) prog_9_method_11_code (4 : Nat) (Option.some Jvm.ClassFile.FieldType.int)) ∈ gt := List.mem_filter.mpr ⟨List.mem_of_getElem? (i := 660) (by decide +kernel), by decide +kernel⟩
theorem g681 : (Jvm.Cond.methodLink "LayeredLauncherModel" (179 : Nat) ({ cls := "LayeredLauncherModel", name := "pick", desc := "()I" } : Jvm.MethodName)) ∈ gt := List.mem_filter.mpr ⟨List.mem_of_getElem? (i := 681) (by decide +kernel), by decide +kernel⟩
theorem g683 : (Jvm.Cond.instanceMethod ({ cls := "LayeredLauncherModel", name := "pick", desc := "()I" } : Jvm.MethodName)) ∈ gt := List.mem_filter.mpr ⟨List.mem_of_getElem? (i := 683) (by decide +kernel), by decide +kernel⟩
theorem g684 : (Jvm.Cond.code ({ cls := "LayeredLauncherModel", name := "pick", desc := "()I" } : Jvm.MethodName) prog_9_method_22_code (4 : Nat) (Option.some Jvm.ClassFile.FieldType.int)) ∈ gt := List.mem_filter.mpr ⟨List.mem_of_getElem? (i := 684) (by decide +kernel), by decide +kernel⟩
theorem g685 : (Jvm.Cond.methodLink "LayeredLauncherModel" (152 : Nat) ({ cls := "LayeredLauncherModel", name := "holds", desc := "(II)Z" } : Jvm.MethodName)) ∈ gt := List.mem_filter.mpr ⟨List.mem_of_getElem? (i := 685) (by decide +kernel), by decide +kernel⟩
theorem g687 : (Jvm.Cond.instanceMethod ({ cls := "LayeredLauncherModel", name := "holds", desc := "(II)Z" } : Jvm.MethodName)) ∈ gt := List.mem_filter.mpr ⟨List.mem_of_getElem? (i := 687) (by decide +kernel), by decide +kernel⟩
theorem g688 : (Jvm.Cond.code ({ cls := "LayeredLauncherModel", name := "holds", desc := "(II)Z" } : Jvm.MethodName) prog_9_method_20_code (5 : Nat) (Option.some Jvm.ClassFile.FieldType.boolean)) ∈ gt := List.mem_filter.mpr ⟨List.mem_of_getElem? (i := 688) (by decide +kernel), by decide +kernel⟩
theorem g689 : (Jvm.Cond.methodLink "LayeredLauncherModel" (155 : Nat) ({ cls := "LayeredLauncherModel", name := "isAbove", desc := "(II)Z" } : Jvm.MethodName)) ∈ gt := List.mem_filter.mpr ⟨List.mem_of_getElem? (i := 689) (by decide +kernel), by decide +kernel⟩
theorem g691 : (Jvm.Cond.instanceMethod ({ cls := "LayeredLauncherModel", name := "isAbove", desc := "(II)Z" } : Jvm.MethodName)) ∈ gt := List.mem_filter.mpr ⟨List.mem_of_getElem? (i := 691) (by decide +kernel), by decide +kernel⟩
theorem g692 : (Jvm.Cond.code ({ cls := "LayeredLauncherModel", name := "isAbove", desc := "(II)Z" } : Jvm.MethodName) prog_9_method_23_code (4 : Nat) (Option.some Jvm.ClassFile.FieldType.boolean)) ∈ gt := List.mem_filter.mpr ⟨List.mem_of_getElem? (i := 692) (by decide +kernel), by decide +kernel⟩
theorem g693 : (Jvm.Cond.methodLink "LayeredLauncherModel" (182 : Nat) ({ cls := "LayeredLauncherModel", name := "add", desc := "(IIII)V" } : Jvm.MethodName)) ∈ gt := List.mem_filter.mpr ⟨List.mem_of_getElem? (i := 693) (by decide +kernel), by decide +kernel⟩
theorem g695 : (Jvm.Cond.instanceMethod ({ cls := "LayeredLauncherModel", name := "add", desc := "(IIII)V" } : Jvm.MethodName)) ∈ gt := List.mem_filter.mpr ⟨List.mem_of_getElem? (i := 695) (by decide +kernel), by decide +kernel⟩
theorem g696 : (Jvm.Cond.code ({ cls := "LayeredLauncherModel", name := "add", desc := "(IIII)V" } : Jvm.MethodName) prog_9_method_33_code (6 : Nat) (Option.none : Option Jvm.ClassFile.FieldType)) ∈ gt := List.mem_filter.mpr ⟨List.mem_of_getElem? (i := 696) (by decide +kernel), by decide +kernel⟩
theorem g697 : (Jvm.Cond.methodLink "LayeredLauncherModel" (186 : Nat) ({ cls := "LayeredLauncherModel", name := "need", desc := "(II)I" } : Jvm.MethodName)) ∈ gt := List.mem_filter.mpr ⟨List.mem_of_getElem? (i := 697) (by decide +kernel), by decide +kernel⟩
theorem g699 : (Jvm.Cond.instanceMethod ({ cls := "LayeredLauncherModel", name := "need", desc := "(II)I" } : Jvm.MethodName)) ∈ gt := List.mem_filter.mpr ⟨List.mem_of_getElem? (i := 699) (by decide +kernel), by decide +kernel⟩
theorem g700 : (Jvm.Cond.code ({ cls := "LayeredLauncherModel", name := "need", desc := "(II)I" } : Jvm.MethodName) prog_9_method_34_code (5 : Nat) (Option.some Jvm.ClassFile.FieldType.int)) ∈ gt := List.mem_filter.mpr ⟨List.mem_of_getElem? (i := 700) (by decide +kernel), by decide +kernel⟩
theorem g701 : (Jvm.Cond.methodLink "LayeredLauncherModel" (173 : Nat) ({ cls := "LayeredLauncherModel", name := "takeDependency", desc := "(I)V" } : Jvm.MethodName)) ∈ gt := List.mem_filter.mpr ⟨List.mem_of_getElem? (i := 701) (by decide +kernel), by decide +kernel⟩
theorem g703 : (Jvm.Cond.instanceMethod ({ cls := "LayeredLauncherModel", name := "takeDependency", desc := "(I)V" } : Jvm.MethodName)) ∈ gt := List.mem_filter.mpr ⟨List.mem_of_getElem? (i := 703) (by decide +kernel), by decide +kernel⟩
theorem g704 : (Jvm.Cond.code ({ cls := "LayeredLauncherModel", name := "takeDependency", desc := "(I)V" } : Jvm.MethodName) prog_9_method_5_code (3 : Nat) (Option.none : Option Jvm.ClassFile.FieldType)) ∈ gt := List.mem_filter.mpr ⟨List.mem_of_getElem? (i := 704) (by decide +kernel), by decide +kernel⟩
theorem g705 : (Jvm.Cond.methodLink "LayeredLauncherModel" (176 : Nat) ({ cls := "LayeredLauncherModel", name := "barred", desc := "(II)Z" } : Jvm.MethodName)) ∈ gt := List.mem_filter.mpr ⟨List.mem_of_getElem? (i := 705) (by decide +kernel), by decide +kernel⟩
theorem g707 : (Jvm.Cond.instanceMethod ({ cls := "LayeredLauncherModel", name := "barred", desc := "(II)Z" } : Jvm.MethodName)) ∈ gt := List.mem_filter.mpr ⟨List.mem_of_getElem? (i := 707) (by decide +kernel), by decide +kernel⟩
theorem g708 : (Jvm.Cond.code ({ cls := "LayeredLauncherModel", name := "barred", desc := "(II)Z" } : Jvm.MethodName) prog_9_method_32_code (4 : Nat) (Option.some Jvm.ClassFile.FieldType.boolean)) ∈ gt := List.mem_filter.mpr ⟨List.mem_of_getElem? (i := 708) (by decide +kernel), by decide +kernel⟩
theorem g709 : (Jvm.Cond.methodLink "LayeredLauncherModel" (170 : Nat) ({ cls := "LayeredLauncherModel", name := "excluded", desc := "(II)Z" } : Jvm.MethodName)) ∈ gt := List.mem_filter.mpr ⟨List.mem_of_getElem? (i := 709) (by decide +kernel), by decide +kernel⟩
theorem g711 : (Jvm.Cond.instanceMethod ({ cls := "LayeredLauncherModel", name := "excluded", desc := "(II)Z" } : Jvm.MethodName)) ∈ gt := List.mem_filter.mpr ⟨List.mem_of_getElem? (i := 711) (by decide +kernel), by decide +kernel⟩
theorem g712 : (Jvm.Cond.code ({ cls := "LayeredLauncherModel", name := "excluded", desc := "(II)Z" } : Jvm.MethodName) prog_9_method_31_code (6 : Nat) (Option.some Jvm.ClassFile.FieldType.boolean)) ∈ gt := List.mem_filter.mpr ⟨List.mem_of_getElem? (i := 712) (by decide +kernel), by decide +kernel⟩
theorem g741 : (Jvm.Cond.methodLink "LayeredLauncherModel" (189 : Nat) ({ cls := "LayeredLauncherModel", name := "holders", desc := "(I)I" } : Jvm.MethodName)) ∈ gt := List.mem_filter.mpr ⟨List.mem_of_getElem? (i := 741) (by decide +kernel), by decide +kernel⟩
theorem g743 : (Jvm.Cond.instanceMethod ({ cls := "LayeredLauncherModel", name := "holders", desc := "(I)I" } : Jvm.MethodName)) ∈ gt := List.mem_filter.mpr ⟨List.mem_of_getElem? (i := 743) (by decide +kernel), by decide +kernel⟩
theorem g744 : (Jvm.Cond.code ({ cls := "LayeredLauncherModel", name := "holders", desc := "(I)I" } : Jvm.MethodName) prog_9_method_43_code (4 : Nat) (Option.some Jvm.ClassFile.FieldType.int)) ∈ gt := List.mem_filter.mpr ⟨List.mem_of_getElem? (i := 744) (by decide +kernel), by decide +kernel⟩
theorem F_LN_9 : hq_F gt vwCl "LayeredLauncher$Line" 9 1 0 true (.array .char) := ⟨_, _, _, _, K_LN, by decide, g61, rfl, by decide +kernel⟩
theorem F_LN_15 : hq_F gt vwCl "LayeredLauncher$Line" 15 1 1 false (.int) := ⟨_, _, _, _, K_LN, by decide, g62, rfl, by decide +kernel⟩
theorem F_LN_19 : hq_F gt vwCl "LayeredLauncher$Line" 19 1 2 false (.int) := ⟨_, _, _, _, K_LN, by decide, g64, rfl, by decide +kernel⟩
theorem F_EL_11 : hq_F gt vwCl "LayeredLauncher$EntryList" 11 2 0 true (.array (.object "LayeredLauncher$Artifact")) := ⟨_, _, _, _, K_EL, by decide, g84, rfl, by decide +kernel⟩
theorem F_EL_17 : hq_F gt vwCl "LayeredLauncher$EntryList" 17 2 1 true (.array .int) := ⟨_, _, _, _, K_EL, by decide, g86, rfl, by decide +kernel⟩
theorem F_EL_21 : hq_F gt vwCl "LayeredLauncher$EntryList" 21 2 2 true (.array .int) := ⟨_, _, _, _, K_EL, by decide, g88, rfl, by decide +kernel⟩
theorem F_EL_26 : hq_F gt vwCl "LayeredLauncher$EntryList" 26 2 3 true (.array (.object "LayeredLauncher$Dependency")) := ⟨_, _, _, _, K_EL, by decide, g90, rfl, by decide +kernel⟩
theorem F_EL_30 : hq_F gt vwCl "LayeredLauncher$EntryList" 30 2 4 false (.int) := ⟨_, _, _, _, K_EL, by decide, g91, rfl, by decide +kernel⟩
theorem F_LL_10 : hq_F gt vwCl "LayeredLauncher" 10 0 0 true (.object "LayeredLauncher$Line") := ⟨_, _, _, _, K_LL, by decide, g105, rfl, by decide +kernel⟩
theorem F_LL_18 : hq_F gt vwCl "LayeredLauncher" 18 0 1 true (.array (.object "LayeredLauncher$Artifact")) := ⟨_, _, _, _, K_LL, by decide, g106, rfl, by decide +kernel⟩
theorem F_LL_22 : hq_F gt vwCl "LayeredLauncher" 22 0 2 false (.int) := ⟨_, _, _, _, K_LL, by decide, g107, rfl, by decide +kernel⟩
theorem F_LL_29 : hq_F gt vwCl "LayeredLauncher" 29 0 3 false (.object "LayeredLauncher$EntryList") := ⟨_, _, _, _, K_LL, by decide, g108, rfl, by decide +kernel⟩
theorem F_LL_33 : hq_F gt vwCl "LayeredLauncher" 33 0 4 false (.object "LayeredLauncher$EntryList") := ⟨_, _, _, _, K_LL, by decide, g109, rfl, by decide +kernel⟩
theorem F_LL_36 : hq_F gt vwCl "LayeredLauncher" 36 0 5 false (.int) := ⟨_, _, _, _, K_LL, by decide, g110, rfl, by decide +kernel⟩
theorem F_LL_39 : hq_F gt vwCl "LayeredLauncher" 39 1 1 false (.int) := ⟨_, _, _, _, K_LN, by decide, g63, rfl, by decide +kernel⟩
theorem F_VS_9 : hq_F gt vwCl "LayeredLauncher$Version" 9 6 0 true (.array .long) := ⟨_, _, _, _, K_VS, by decide, g200, rfl, by decide +kernel⟩
theorem F_RG_7 : hq_F gt vwCl "LayeredLauncher$Range" 7 5 0 true (.boolean) := ⟨_, _, _, _, K_RG, by decide, g226, rfl, by decide +kernel⟩
theorem F_RG_13 : hq_F gt vwCl "LayeredLauncher$Range" 13 5 1 true (.object "LayeredLauncher$Version") := ⟨_, _, _, _, K_RG, by decide, g228, rfl, by decide +kernel⟩
theorem F_RG_17 : hq_F gt vwCl "LayeredLauncher$Range" 17 5 2 true (.boolean) := ⟨_, _, _, _, K_RG, by decide, g229, rfl, by decide +kernel⟩
theorem F_RG_20 : hq_F gt vwCl "LayeredLauncher$Range" 20 5 3 true (.object "LayeredLauncher$Version") := ⟨_, _, _, _, K_RG, by decide, g230, rfl, by decide +kernel⟩
theorem F_RG_23 : hq_F gt vwCl "LayeredLauncher$Range" 23 5 4 true (.boolean) := ⟨_, _, _, _, K_RG, by decide, g231, rfl, by decide +kernel⟩
theorem F_LL_120 : hq_F gt vwCl "LayeredLauncher" 120 3 7 false (.boolean) := ⟨_, _, _, _, K_AR, by decide, g286, rfl, by decide +kernel⟩
theorem F_LL_173 : hq_F gt vwCl "LayeredLauncher" 173 3 1 true (.long) := ⟨_, _, _, _, K_AR, by decide, g274, rfl, by decide +kernel⟩
theorem F_LL_177 : hq_F gt vwCl "LayeredLauncher" 177 3 2 true (.object "LayeredLauncher$Version") := ⟨_, _, _, _, K_AR, by decide, g276, rfl, by decide +kernel⟩
theorem F_AR_11 : hq_F gt vwCl "LayeredLauncher$Artifact" 11 3 4 true (.array (.object "LayeredLauncher$Dependency")) := ⟨_, _, _, _, K_AR, by decide, g279, rfl, by decide +kernel⟩
theorem F_AR_17 : hq_F gt vwCl "LayeredLauncher$Artifact" 17 3 5 false (.int) := ⟨_, _, _, _, K_AR, by decide, g281, rfl, by decide +kernel⟩
theorem F_AR_21 : hq_F gt vwCl "LayeredLauncher$Artifact" 21 3 6 false (.int) := ⟨_, _, _, _, K_AR, by decide, g283, rfl, by decide +kernel⟩
theorem F_AR_24 : hq_F gt vwCl "LayeredLauncher$Artifact" 24 3 7 false (.boolean) := ⟨_, _, _, _, K_AR, by decide, g285, rfl, by decide +kernel⟩
theorem F_AR_28 : hq_F gt vwCl "LayeredLauncher$Artifact" 28 3 0 true (.int) := ⟨_, _, _, _, K_AR, by decide, g270, rfl, by decide +kernel⟩
theorem F_AR_31 : hq_F gt vwCl "LayeredLauncher$Artifact" 31 3 1 true (.long) := ⟨_, _, _, _, K_AR, by decide, g272, rfl, by decide +kernel⟩
theorem F_AR_35 : hq_F gt vwCl "LayeredLauncher$Artifact" 35 3 2 true (.object "LayeredLauncher$Version") := ⟨_, _, _, _, K_AR, by decide, g275, rfl, by decide +kernel⟩
theorem F_AR_39 : hq_F gt vwCl "LayeredLauncher$Artifact" 39 3 3 true (.array .char) := ⟨_, _, _, _, K_AR, by decide, g277, rfl, by decide +kernel⟩
theorem F_DP_9 : hq_F gt vwCl "LayeredLauncher$Dependency" 9 4 3 true (.array .long) := ⟨_, _, _, _, K_DP, by decide, g336, rfl, by decide +kernel⟩
theorem F_DP_15 : hq_F gt vwCl "LayeredLauncher$Dependency" 15 4 4 false (.int) := ⟨_, _, _, _, K_DP, by decide, g337, rfl, by decide +kernel⟩
theorem F_DP_19 : hq_F gt vwCl "LayeredLauncher$Dependency" 19 4 0 true (.long) := ⟨_, _, _, _, K_DP, by decide, g330, rfl, by decide +kernel⟩
theorem F_DP_23 : hq_F gt vwCl "LayeredLauncher$Dependency" 23 4 1 true (.object "LayeredLauncher$Range") := ⟨_, _, _, _, K_DP, by decide, g332, rfl, by decide +kernel⟩
theorem F_DP_27 : hq_F gt vwCl "LayeredLauncher$Dependency" 27 4 2 true (.boolean) := ⟨_, _, _, _, K_DP, by decide, g334, rfl, by decide +kernel⟩
theorem F_LL_86 : hq_F gt vwCl "LayeredLauncher" 86 3 5 false (.int) := ⟨_, _, _, _, K_AR, by decide, g282, rfl, by decide +kernel⟩
theorem F_LL_105 : hq_F gt vwCl "LayeredLauncher" 105 4 4 false (.int) := ⟨_, _, _, _, K_DP, by decide, g338, rfl, by decide +kernel⟩
theorem F_EL_38 : hq_F gt vwCl "LayeredLauncher$EntryList" 38 3 1 true (.long) := ⟨_, _, _, _, K_AR, by decide, g273, rfl, by decide +kernel⟩
theorem F_LL_197 : hq_F gt vwCl "LayeredLauncher" 197 4 2 true (.boolean) := ⟨_, _, _, _, K_DP, by decide, g335, rfl, by decide +kernel⟩
theorem F_LL_148 : hq_F gt vwCl "LayeredLauncher" 148 2 1 true (.array .int) := ⟨_, _, _, _, K_EL, by decide, g87, rfl, by decide +kernel⟩
theorem F_LL_200 : hq_F gt vwCl "LayeredLauncher" 200 4 0 true (.long) := ⟨_, _, _, _, K_DP, by decide, g331, rfl, by decide +kernel⟩
theorem F_LL_209 : hq_F gt vwCl "LayeredLauncher" 209 4 1 true (.object "LayeredLauncher$Range") := ⟨_, _, _, _, K_DP, by decide, g333, rfl, by decide +kernel⟩
theorem F_LL_213 : hq_F gt vwCl "LayeredLauncher" 213 5 0 true (.boolean) := ⟨_, _, _, _, K_RG, by decide, g227, rfl, by decide +kernel⟩
theorem F_LL_138 : hq_F gt vwCl "LayeredLauncher" 138 2 4 false (.int) := ⟨_, _, _, _, K_EL, by decide, g92, rfl, by decide +kernel⟩
theorem F_LL_144 : hq_F gt vwCl "LayeredLauncher" 144 2 0 true (.array (.object "LayeredLauncher$Artifact")) := ⟨_, _, _, _, K_EL, by decide, g85, rfl, by decide +kernel⟩
theorem F_LL_189 : hq_F gt vwCl "LayeredLauncher" 189 3 4 true (.array (.object "LayeredLauncher$Dependency")) := ⟨_, _, _, _, K_AR, by decide, g280, rfl, by decide +kernel⟩
theorem F_LL_145 : hq_F gt vwCl "LayeredLauncher" 145 3 0 true (.int) := ⟨_, _, _, _, K_AR, by decide, g271, rfl, by decide +kernel⟩
theorem F_LL_152 : hq_F gt vwCl "LayeredLauncher" 152 2 2 true (.array .int) := ⟨_, _, _, _, K_EL, by decide, g89, rfl, by decide +kernel⟩
theorem F_LL_159 : hq_F gt vwCl "LayeredLauncher" 159 3 3 true (.array .char) := ⟨_, _, _, _, K_AR, by decide, g278, rfl, by decide +kernel⟩
theorem F_EL_52 : hq_F gt vwCl "LayeredLauncher$EntryList" 52 3 6 false (.int) := ⟨_, _, _, _, K_AR, by decide, g284, rfl, by decide +kernel⟩
theorem F_MD_7 : hq_F gt vwCl "LayeredLauncherModel" 7 7 0 false (.int) := ⟨_, _, _, _, K_MD, by decide, g486, rfl, by decide +kernel⟩
theorem F_MD_13 : hq_F gt vwCl "LayeredLauncherModel" 13 7 1 true (.array .int) := ⟨_, _, _, _, K_MD, by decide, g487, rfl, by decide +kernel⟩
theorem F_MD_17 : hq_F gt vwCl "LayeredLauncherModel" 17 7 2 false (.int) := ⟨_, _, _, _, K_MD, by decide, g488, rfl, by decide +kernel⟩
theorem F_MD_20 : hq_F gt vwCl "LayeredLauncherModel" 20 7 3 true (.array .int) := ⟨_, _, _, _, K_MD, by decide, g489, rfl, by decide +kernel⟩
theorem F_MD_23 : hq_F gt vwCl "LayeredLauncherModel" 23 7 4 false (.int) := ⟨_, _, _, _, K_MD, by decide, g490, rfl, by decide +kernel⟩
theorem F_MD_26 : hq_F gt vwCl "LayeredLauncherModel" 26 7 5 true (.array .int) := ⟨_, _, _, _, K_MD, by decide, g491, rfl, by decide +kernel⟩
theorem F_MD_29 : hq_F gt vwCl "LayeredLauncherModel" 29 7 6 true (.array .int) := ⟨_, _, _, _, K_MD, by decide, g492, rfl, by decide +kernel⟩
theorem F_MD_32 : hq_F gt vwCl "LayeredLauncherModel" 32 7 7 true (.array .int) := ⟨_, _, _, _, K_MD, by decide, g493, rfl, by decide +kernel⟩
theorem F_MD_35 : hq_F gt vwCl "LayeredLauncherModel" 35 7 8 true (.array .boolean) := ⟨_, _, _, _, K_MD, by decide, g494, rfl, by decide +kernel⟩
theorem F_MD_39 : hq_F gt vwCl "LayeredLauncherModel" 39 7 9 true (.array .int) := ⟨_, _, _, _, K_MD, by decide, g495, rfl, by decide +kernel⟩
theorem F_MD_42 : hq_F gt vwCl "LayeredLauncherModel" 42 7 10 true (.array .int) := ⟨_, _, _, _, K_MD, by decide, g496, rfl, by decide +kernel⟩
theorem F_MD_45 : hq_F gt vwCl "LayeredLauncherModel" 45 7 11 true (.array .boolean) := ⟨_, _, _, _, K_MD, by decide, g497, rfl, by decide +kernel⟩
theorem F_MD_48 : hq_F gt vwCl "LayeredLauncherModel" 48 7 12 true (.array .int) := ⟨_, _, _, _, K_MD, by decide, g498, rfl, by decide +kernel⟩
theorem F_MD_51 : hq_F gt vwCl "LayeredLauncherModel" 51 7 13 true (.array .int) := ⟨_, _, _, _, K_MD, by decide, g499, rfl, by decide +kernel⟩
theorem F_MD_54 : hq_F gt vwCl "LayeredLauncherModel" 54 7 14 true (.array .int) := ⟨_, _, _, _, K_MD, by decide, g500, rfl, by decide +kernel⟩
theorem F_MD_57 : hq_F gt vwCl "LayeredLauncherModel" 57 7 15 true (.array .int) := ⟨_, _, _, _, K_MD, by decide, g501, rfl, by decide +kernel⟩
theorem F_MD_60 : hq_F gt vwCl "LayeredLauncherModel" 60 7 16 true (.array .int) := ⟨_, _, _, _, K_MD, by decide, g502, rfl, by decide +kernel⟩
theorem F_MD_63 : hq_F gt vwCl "LayeredLauncherModel" 63 7 17 false (.int) := ⟨_, _, _, _, K_MD, by decide, g503, rfl, by decide +kernel⟩
theorem F_MD_66 : hq_F gt vwCl "LayeredLauncherModel" 66 7 18 false (.int) := ⟨_, _, _, _, K_MD, by decide, g504, rfl, by decide +kernel⟩
theorem F_MD_69 : hq_F gt vwCl "LayeredLauncherModel" 69 7 19 false (.int) := ⟨_, _, _, _, K_MD, by decide, g505, rfl, by decide +kernel⟩
theorem F_MD_72 : hq_F gt vwCl "LayeredLauncherModel" 72 7 20 true (.array .int) := ⟨_, _, _, _, K_MD, by decide, g506, rfl, by decide +kernel⟩
theorem F_MD_75 : hq_F gt vwCl "LayeredLauncherModel" 75 7 21 true (.array .int) := ⟨_, _, _, _, K_MD, by decide, g507, rfl, by decide +kernel⟩
theorem F_MD_78 : hq_F gt vwCl "LayeredLauncherModel" 78 7 22 true (.array .int) := ⟨_, _, _, _, K_MD, by decide, g508, rfl, by decide +kernel⟩
theorem F_MD_81 : hq_F gt vwCl "LayeredLauncherModel" 81 7 23 true (.array .int) := ⟨_, _, _, _, K_MD, by decide, g509, rfl, by decide +kernel⟩
theorem F_MD_84 : hq_F gt vwCl "LayeredLauncherModel" 84 7 24 true (.array .int) := ⟨_, _, _, _, K_MD, by decide, g510, rfl, by decide +kernel⟩
theorem F_MD_87 : hq_F gt vwCl "LayeredLauncherModel" 87 7 25 false (.int) := ⟨_, _, _, _, K_MD, by decide, g511, rfl, by decide +kernel⟩
theorem F_MD_90 : hq_F gt vwCl "LayeredLauncherModel" 90 7 26 true (.array .int) := ⟨_, _, _, _, K_MD, by decide, g512, rfl, by decide +kernel⟩
theorem F_MD_93 : hq_F gt vwCl "LayeredLauncherModel" 93 7 27 false (.int) := ⟨_, _, _, _, K_MD, by decide, g513, rfl, by decide +kernel⟩
theorem F_MD_96 : hq_F gt vwCl "LayeredLauncherModel" 96 7 28 false (.int) := ⟨_, _, _, _, K_MD, by decide, g514, rfl, by decide +kernel⟩
theorem M_LL_9 : hq_MIN gt "LayeredLauncher" 9 y_LN_init b_LN_init 1 ((Option.none : Option Jvm.ClassFile.FieldType)) 0 := ⟨g59, g37, (by decide +kernel), g58, rfl, ⟨by decide, by decide, by decide +kernel⟩⟩
theorem M_LL_28 : hq_MIN gt "LayeredLauncher" 28 y_EL_init b_EL_init 1 ((Option.none : Option Jvm.ClassFile.FieldType)) 0 := ⟨g79, g38, (by decide +kernel), g78, rfl, ⟨by decide, by decide, by decide +kernel⟩⟩
theorem M_LL_42 : hq_MV gt vwCl "LayeredLauncher" 42 1 y_LN_append b_LN_append 2 ((Option.none : Option Jvm.ClassFile.FieldType)) 1 := ⟨g131, g37, g128, g129, g130, ⟨_, rfl, rfl⟩, ⟨by decide, by decide, by decide +kernel⟩⟩
theorem M_LL_46 : hq_MV gt vwCl "LayeredLauncher" 46 1 y_LN_clear b_LN_clear 1 ((Option.none : Option Jvm.ClassFile.FieldType)) 0 := ⟨g139, g37, g136, g137, g138, ⟨_, rfl, rfl⟩, ⟨by decide, by decide, by decide +kernel⟩⟩
theorem M_LN_35 : hq_MS gt "LayeredLauncher$Line" 35 y_JM_min b_JM_min 2 ((Option.some Jvm.ClassFile.FieldType.int)) 2 := ⟨g154, g40, g152, g153, ⟨by decide, by decide, by decide +kernel⟩⟩
theorem M_LN_41 : hq_MSN gt "LayeredLauncher$Line" 41 y_LL_isLetter b_LL_isLetter 1 ((Option.some Jvm.ClassFile.FieldType.boolean)) 1 := ⟨g157, g36, (by decide +kernel), g156, ⟨by decide, by decide, by decide +kernel⟩⟩
theorem M_LN_46 : hq_MSN gt "LayeredLauncher$Line" 46 y_LL_letterNumber b_LL_letterNumber 1 ((Option.some Jvm.ClassFile.FieldType.int)) 1 := ⟨g161, g36, (by decide +kernel), g160, ⟨by decide, by decide, by decide +kernel⟩⟩
theorem M_LN_31 : hq_MV gt vwCl "LayeredLauncher$Line" 31 1 y_LN_standsAt b_LN_standsAt 2 ((Option.some Jvm.ClassFile.FieldType.boolean)) 1 := ⟨g169, g37, g166, g167, g168, ⟨_, rfl, rfl⟩, ⟨by decide, by decide, by decide +kernel⟩⟩
theorem M_LN_50 : hq_MV gt vwCl "LayeredLauncher$Line" 50 1 y_LN_takeName b_LN_takeName 4 ((Option.some Jvm.ClassFile.FieldType.long)) 0 := ⟨g151, g37, g148, g149, g150, ⟨_, rfl, rfl⟩, ⟨by decide, by decide, by decide +kernel⟩⟩
theorem M_LN_54 : hq_MV gt vwCl "LayeredLauncher$Line" 54 1 y_LN_take b_LN_take 2 ((Option.some Jvm.ClassFile.FieldType.boolean)) 1 := ⟨g165, g37, g162, g163, g164, ⟨_, rfl, rfl⟩, ⟨by decide, by decide, by decide +kernel⟩⟩
theorem M_LN_85 : hq_MSN gt "LayeredLauncher$Line" 85 y_LL_isDigit b_LL_isDigit 1 ((Option.some Jvm.ClassFile.FieldType.boolean)) 1 := ⟨g179, g36, (by decide +kernel), g178, ⟨by decide, by decide, by decide +kernel⟩⟩
theorem M_LN_88 : hq_MSN gt "LayeredLauncher$Line" 88 y_LL_isSeparator b_LL_isSeparator 1 ((Option.some Jvm.ClassFile.FieldType.boolean)) 1 := ⟨g182, g36, (by decide +kernel), g181, ⟨by decide, by decide, by decide +kernel⟩⟩
theorem M_VS_15 : hq_MSN gt "LayeredLauncher$Version" 15 y_LL_isDigit b_LL_isDigit 1 ((Option.some Jvm.ClassFile.FieldType.boolean)) 1 := ⟨g179, g36, (by decide +kernel), g178, ⟨by decide, by decide, by decide +kernel⟩⟩
theorem M_VS_21 : hq_MSN gt "LayeredLauncher$Version" 21 y_LL_isLetter b_LL_isLetter 1 ((Option.some Jvm.ClassFile.FieldType.boolean)) 1 := ⟨g157, g36, (by decide +kernel), g156, ⟨by decide, by decide, by decide +kernel⟩⟩
theorem M_VS_28 : hq_MSN gt "LayeredLauncher$Version" 28 y_LL_letterNumber b_LL_letterNumber 1 ((Option.some Jvm.ClassFile.FieldType.int)) 1 := ⟨g161, g36, (by decide +kernel), g160, ⟨by decide, by decide, by decide +kernel⟩⟩
theorem M_LN_57 : hq_MS gt "LayeredLauncher$Line" 57 y_LN_isOfVersion b_LN_isOfVersion 1 ((Option.some Jvm.ClassFile.FieldType.boolean)) 1 := ⟨g176, g37, g174, g175, ⟨by decide, by decide, by decide +kernel⟩⟩
theorem M_LN_60 : hq_MV gt vwCl "LayeredLauncher$Line" 60 1 y_LN_isVersion b_LN_isVersion 6 ((Option.some Jvm.ClassFile.FieldType.boolean)) 2 := ⟨g186, g37, g183, g185, g0, ⟨_, rfl, rfl⟩, ⟨by decide, by decide, by decide +kernel⟩⟩
theorem M_LN_66 : hq_MI gt "LayeredLauncher$Line" 66 y_VS_init b_VS_init 10 ((Option.none : Option Jvm.ClassFile.FieldType)) 3 := ⟨g191, g41, g189, g190, rfl, ⟨by decide, by decide, by decide +kernel⟩⟩
theorem M_LN_28 : hq_MV gt vwCl "LayeredLauncher$Line" 28 1 y_LN_clear b_LN_clear 1 ((Option.none : Option Jvm.ClassFile.FieldType)) 0 := ⟨g139, g37, g216, g137, g138, ⟨_, rfl, rfl⟩, ⟨by decide, by decide, by decide +kernel⟩⟩
theorem M_RG_26 : hq_MI gt "LayeredLauncher$Range" 26 y_RG_init b_RG_init 6 ((Option.none : Option Jvm.ClassFile.FieldType)) 5 := ⟨g224, g43, g222, g223, rfl, ⟨by decide, by decide, by decide +kernel⟩⟩
theorem M_RG_36 : hq_MV gt vwCl "LayeredLauncher$Range" 36 6 y_VS_orderAgainst b_VS_orderAgainst 3 ((Option.some Jvm.ClassFile.FieldType.int)) 1 := ⟨g258, g41, g255, g256, g257, ⟨_, rfl, rfl⟩, ⟨by decide, by decide, by decide +kernel⟩⟩
theorem M_RG_29 : hq_MV gt vwCl "LayeredLauncher$Range" 29 5 y_RG_keepsLow b_RG_keepsLow 3 ((Option.some Jvm.ClassFile.FieldType.boolean)) 1 := ⟨g254, g43, g251, g253, g2, ⟨_, rfl, rfl⟩, ⟨by decide, by decide, by decide +kernel⟩⟩
theorem M_RG_33 : hq_MV gt vwCl "LayeredLauncher$Range" 33 5 y_RG_keepsHigh b_RG_keepsHigh 3 ((Option.some Jvm.ClassFile.FieldType.boolean)) 1 := ⟨g262, g43, g259, g261, g3, ⟨_, rfl, rfl⟩, ⟨by decide, by decide, by decide +kernel⟩⟩
theorem M_LL_181 : hq_MV gt vwCl "LayeredLauncher" 181 5 y_RG_holds b_RG_holds 2 ((Option.some Jvm.ClassFile.FieldType.boolean)) 1 := ⟨g250, g43, g247, g248, g249, ⟨_, rfl, rfl⟩, ⟨by decide, by decide, by decide +kernel⟩⟩
theorem M_LL_128 : hq_MV gt vwCl "LayeredLauncher" 128 6 y_VS_orderAgainst b_VS_orderAgainst 3 ((Option.some Jvm.ClassFile.FieldType.int)) 1 := ⟨g258, g41, g263, g256, g257, ⟨_, rfl, rfl⟩, ⟨by decide, by decide, by decide +kernel⟩⟩
theorem M_LL_49 : hq_MV gt vwCl "LayeredLauncher" 49 1 y_LN_takeNameAndColon b_LN_takeNameAndColon 3 ((Option.some Jvm.ClassFile.FieldType.long)) 0 := ⟨g147, g37, g144, g145, g146, ⟨_, rfl, rfl⟩, ⟨by decide, by decide, by decide +kernel⟩⟩
theorem M_LL_53 : hq_MV gt vwCl "LayeredLauncher" 53 1 y_LN_takeVersion b_LN_takeVersion 2 ((Option.some (Jvm.ClassFile.FieldType.object "LayeredLauncher$Version"))) 0 := ⟨g173, g37, g170, g171, g172, ⟨_, rfl, rfl⟩, ⟨by decide, by decide, by decide +kernel⟩⟩
theorem M_LL_57 : hq_MV gt vwCl "LayeredLauncher" 57 1 y_LN_copy b_LN_copy 2 ((Option.some (Jvm.ClassFile.FieldType.array Jvm.ClassFile.FieldType.char))) 0 := ⟨g208, g37, g205, g206, g207, ⟨_, rfl, rfl⟩, ⟨by decide, by decide, by decide +kernel⟩⟩
theorem M_LL_61 : hq_MV gt vwCl "LayeredLauncher" 61 1 y_LN_finishReading b_LN_finishReading 2 ((Option.some Jvm.ClassFile.FieldType.boolean)) 0 := ⟨g215, g37, g212, g213, g214, ⟨_, rfl, rfl⟩, ⟨by decide, by decide, by decide +kernel⟩⟩
theorem M_LL_65 : hq_MS gt "LayeredLauncher" 65 y_RG_exactly b_RG_exactly 2 ((Option.some (Jvm.ClassFile.FieldType.object "LayeredLauncher$Range"))) 2 := ⟨g219, g43, g217, g218, ⟨by decide, by decide, by decide +kernel⟩⟩
theorem M_LL_71 : hq_MV gt vwCl "LayeredLauncher" 71 0 y_LL_pickFor b_LL_pickFor 8 ((Option.some (Jvm.ClassFile.FieldType.object "LayeredLauncher$Artifact"))) 2 := ⟨g246, g36, g243, g245, g1, ⟨_, rfl, rfl⟩, ⟨by decide, by decide, by decide +kernel⟩⟩
theorem M_LL_75 : hq_MI gt "LayeredLauncher" 75 y_AR_init b_AR_init 6 ((Option.none : Option Jvm.ClassFile.FieldType)) 4 := ⟨g267, g44, g265, g266, rfl, ⟨by decide, by decide, by decide +kernel⟩⟩
theorem M_LN_69 : hq_MV gt vwCl "LayeredLauncher$Line" 69 1 y_LN_takeVersion b_LN_takeVersion 2 ((Option.some (Jvm.ClassFile.FieldType.object "LayeredLauncher$Version"))) 0 := ⟨g173, g37, g312, g171, g172, ⟨_, rfl, rfl⟩, ⟨by decide, by decide, by decide +kernel⟩⟩
theorem M_LN_82 : hq_MI gt "LayeredLauncher$Line" 82 y_RG_init b_RG_init 6 ((Option.none : Option Jvm.ClassFile.FieldType)) 5 := ⟨g224, g43, g319, g223, rfl, ⟨by decide, by decide, by decide +kernel⟩⟩
theorem M_LN_73 : hq_MS gt "LayeredLauncher$Line" 73 y_RG_exactly b_RG_exactly 2 ((Option.some (Jvm.ClassFile.FieldType.object "LayeredLauncher$Range"))) 2 := ⟨g219, g43, g313, g218, ⟨by decide, by decide, by decide +kernel⟩⟩
theorem M_LN_79 : hq_MV gt vwCl "LayeredLauncher$Line" 79 1 y_LN_takeRestOfRange b_LN_takeRestOfRange 5 ((Option.some (Jvm.ClassFile.FieldType.object "LayeredLauncher$Range"))) 2 := ⟨g317, g37, g314, g316, g4, ⟨_, rfl, rfl⟩, ⟨by decide, by decide, by decide +kernel⟩⟩
theorem M_LL_78 : hq_MV gt vwCl "LayeredLauncher" 78 1 y_LN_takeRange b_LN_takeRange 4 ((Option.some (Jvm.ClassFile.FieldType.object "LayeredLauncher$Range"))) 0 := ⟨g311, g37, g308, g309, g310, ⟨_, rfl, rfl⟩, ⟨by decide, by decide, by decide +kernel⟩⟩
theorem M_LL_82 : hq_MV gt vwCl "LayeredLauncher" 82 0 y_LL_artifactAt b_LL_artifactAt 2 ((Option.some (Jvm.ClassFile.FieldType.object "LayeredLauncher$Artifact"))) 1 := ⟨g323, g36, g320, g322, g5, ⟨_, rfl, rfl⟩, ⟨by decide, by decide, by decide +kernel⟩⟩
theorem M_LL_91 : hq_MI gt "LayeredLauncher" 91 y_DP_init b_DP_init 5 ((Option.none : Option Jvm.ClassFile.FieldType)) 3 := ⟨g328, g45, g326, g327, rfl, ⟨by decide, by decide, by decide +kernel⟩⟩
theorem M_LL_94 : hq_MV gt vwCl "LayeredLauncher" 94 3 y_AR_addDependency b_AR_addDependency 2 ((Option.none : Option Jvm.ClassFile.FieldType)) 1 := ⟨g353, g44, g350, g351, g352, ⟨_, rfl, rfl⟩, ⟨by decide, by decide, by decide +kernel⟩⟩
theorem M_LL_98 : hq_MV gt vwCl "LayeredLauncher" 98 1 y_LN_takeName b_LN_takeName 4 ((Option.some Jvm.ClassFile.FieldType.long)) 0 := ⟨g151, g37, g358, g149, g150, ⟨_, rfl, rfl⟩, ⟨by decide, by decide, by decide +kernel⟩⟩
theorem M_LL_101 : hq_MV gt vwCl "LayeredLauncher" 101 3 y_AR_lastDependency b_AR_lastDependency 1 ((Option.some (Jvm.ClassFile.FieldType.object "LayeredLauncher$Dependency"))) 0 := ⟨g362, g44, g359, g360, g361, ⟨_, rfl, rfl⟩, ⟨by decide, by decide, by decide +kernel⟩⟩
theorem M_LL_108 : hq_MV gt vwCl "LayeredLauncher" 108 4 y_DP_addExclusion b_DP_addExclusion 3 ((Option.none : Option Jvm.ClassFile.FieldType)) 1 := ⟨g366, g45, g363, g364, g365, ⟨_, rfl, rfl⟩, ⟨by decide, by decide, by decide +kernel⟩⟩
theorem M_LL_112 : hq_MS gt "LayeredLauncher" 112 y_LL_isClass b_LL_isClass 1 ((Option.some Jvm.ClassFile.FieldType.boolean)) 1 := ⟨g373, g36, g371, g372, ⟨by decide, by decide, by decide +kernel⟩⟩
theorem M_LL_116 : hq_MV gt vwCl "LayeredLauncher" 116 3 y_AR_setClass b_AR_setClass 3 ((Option.none : Option Jvm.ClassFile.FieldType)) 2 := ⟨g377, g44, g374, g375, g376, ⟨_, rfl, rfl⟩, ⟨by decide, by decide, by decide +kernel⟩⟩
theorem M_LL_124 : hq_MV gt vwCl "LayeredLauncher" 124 1 y_LN_take b_LN_take 2 ((Option.some Jvm.ClassFile.FieldType.boolean)) 1 := ⟨g165, g37, g386, g163, g164, ⟨_, rfl, rfl⟩, ⟨by decide, by decide, by decide +kernel⟩⟩
theorem M_EL_34 : hq_MV gt vwCl "LayeredLauncher$EntryList" 34 4 y_DP_excludes b_DP_excludes 4 ((Option.some Jvm.ClassFile.FieldType.boolean)) 1 := ⟨g410, g45, g407, g408, g409, ⟨_, rfl, rfl⟩, ⟨by decide, by decide, by decide +kernel⟩⟩
theorem M_LL_201 : hq_MV gt vwCl "LayeredLauncher" 201 2 y_EL_bars b_EL_bars 6 ((Option.some Jvm.ClassFile.FieldType.boolean)) 2 := ⟨g406, g38, g403, g404, g405, ⟨_, rfl, rfl⟩, ⟨by decide, by decide, by decide +kernel⟩⟩
theorem M_LL_205 : hq_MV gt vwCl "LayeredLauncher" 205 2 y_EL_artifactNamed b_EL_artifactNamed 4 ((Option.some (Jvm.ClassFile.FieldType.object "LayeredLauncher$Artifact"))) 1 := ⟨g414, g38, g411, g412, g413, ⟨_, rfl, rfl⟩, ⟨by decide, by decide, by decide +kernel⟩⟩
theorem M_LL_216 : hq_MV gt vwCl "LayeredLauncher" 216 2 y_EL_add b_EL_add 4 ((Option.none : Option Jvm.ClassFile.FieldType)) 3 := ⟨g418, g38, g415, g416, g417, ⟨_, rfl, rfl⟩, ⟨by decide, by decide, by decide +kernel⟩⟩
theorem M_LL_185 : hq_MV gt vwCl "LayeredLauncher" 185 2 y_EL_begin b_EL_begin 2 ((Option.none : Option Jvm.ClassFile.FieldType)) 1 := ⟨g398, g38, g395, g396, g397, ⟨_, rfl, rfl⟩, ⟨by decide, by decide, by decide +kernel⟩⟩
theorem M_LL_193 : hq_MV gt vwCl "LayeredLauncher" 193 0 y_LL_follow b_LL_follow 5 ((Option.some Jvm.ClassFile.FieldType.int)) 2 := ⟨g402, g36, g399, g401, g7, ⟨_, rfl, rfl⟩, ⟨by decide, by decide, by decide +kernel⟩⟩
theorem M_LL_134 : hq_MV gt vwCl "LayeredLauncher" 134 0 y_LL_fillDraft b_LL_fillDraft 6 ((Option.some Jvm.ClassFile.FieldType.int)) 1 := ⟨g394, g36, g391, g393, g6, ⟨_, rfl, rfl⟩, ⟨by decide, by decide, by decide +kernel⟩⟩
theorem M_LL_141 : hq_MV gt vwCl "LayeredLauncher" 141 2 y_EL_has b_EL_has 2 ((Option.some Jvm.ClassFile.FieldType.boolean)) 1 := ⟨g430, g38, g427, g428, g429, ⟨_, rfl, rfl⟩, ⟨by decide, by decide, by decide +kernel⟩⟩
theorem M_EL_42 : hq_MV gt vwCl "LayeredLauncher$EntryList" 42 3 y_AR_hasClass b_AR_hasClass 2 ((Option.some Jvm.ClassFile.FieldType.boolean)) 1 := ⟨g450, g44, g447, g448, g449, ⟨_, rfl, rfl⟩, ⟨by decide, by decide, by decide +kernel⟩⟩
theorem M_LL_155 : hq_MV gt vwCl "LayeredLauncher" 155 2 y_EL_deepestGiver b_EL_deepestGiver 6 ((Option.some Jvm.ClassFile.FieldType.int)) 2 := ⟨g446, g38, g443, g444, g445, ⟨_, rfl, rfl⟩, ⟨by decide, by decide, by decide +kernel⟩⟩
theorem M_EL_46 : hq_MS gt "LayeredLauncher$EntryList" 46 y_JM_max b_JM_max 2 ((Option.some Jvm.ClassFile.FieldType.int)) 2 := ⟨g469, g40, g467, g468, ⟨by decide, by decide, by decide +kernel⟩⟩
theorem M_EL_55 : hq_MS gt "LayeredLauncher$EntryList" 55 y_JI_bitCount b_JI_bitCount 1 ((Option.some Jvm.ClassFile.FieldType.int)) 1 := ⟨g476, g46, g474, g475, ⟨by decide, by decide, by decide +kernel⟩⟩
theorem M_LL_163 : hq_MV gt vwCl "LayeredLauncher" 163 0 y_LL_retiredArtifacts b_LL_retiredArtifacts 3 ((Option.some Jvm.ClassFile.FieldType.int)) 0 := ⟨g462, g36, g459, g461, g8, ⟨_, rfl, rfl⟩, ⟨by decide, by decide, by decide +kernel⟩⟩
theorem M_LL_167 : hq_MV gt vwCl "LayeredLauncher" 167 2 y_EL_greatestDepth b_EL_greatestDepth 3 ((Option.some Jvm.ClassFile.FieldType.int)) 0 := ⟨g466, g38, g463, g464, g465, ⟨_, rfl, rfl⟩, ⟨by decide, by decide, by decide +kernel⟩⟩
theorem M_LL_170 : hq_MV gt vwCl "LayeredLauncher" 170 2 y_EL_sharedClasses b_EL_sharedClasses 4 ((Option.some Jvm.ClassFile.FieldType.int)) 0 := ⟨g473, g38, g470, g471, g472, ⟨_, rfl, rfl⟩, ⟨by decide, by decide, by decide +kernel⟩⟩
theorem M_MD_99 : hq_MV gt vwCl "LayeredLauncherModel" 99 7 y_MD_isDigit b_MD_isDigit 2 ((Option.some Jvm.ClassFile.FieldType.boolean)) 1 := ⟨g606, g39, g603, g605, g13, ⟨_, rfl, rfl⟩, ⟨by decide, by decide, by decide +kernel⟩⟩
theorem M_MD_103 : hq_MV gt vwCl "LayeredLauncherModel" 103 7 y_MD_isMark b_MD_isMark 2 ((Option.some Jvm.ClassFile.FieldType.boolean)) 1 := ⟨g610, g39, g607, g609, g14, ⟨_, rfl, rfl⟩, ⟨by decide, by decide, by decide +kernel⟩⟩
theorem M_MD_106 : hq_MV gt vwCl "LayeredLauncherModel" 106 7 y_MD_isVersion b_MD_isVersion 5 ((Option.some Jvm.ClassFile.FieldType.boolean)) 2 := ⟨g602, g39, g599, g601, g12, ⟨_, rfl, rfl⟩, ⟨by decide, by decide, by decide +kernel⟩⟩
theorem M_MD_110 : hq_MV gt vwCl "LayeredLauncherModel" 110 7 y_MD_commaIn b_MD_commaIn 4 ((Option.some Jvm.ClassFile.FieldType.int)) 2 := ⟨g660, g39, g657, g659, g25, ⟨_, rfl, rfl⟩, ⟨by decide, by decide, by decide +kernel⟩⟩
theorem M_MD_114 : hq_MV gt vwCl "LayeredLauncherModel" 114 7 y_MD_part b_MD_part 9 ((Option.some Jvm.ClassFile.FieldType.int)) 2 := ⟨g638, g39, g635, g637, g21, ⟨_, rfl, rfl⟩, ⟨by decide, by decide, by decide +kernel⟩⟩
theorem M_MD_122 : hq_MV gt vwCl "LayeredLauncherModel" 122 7 y_MD_number b_MD_number 8 ((Option.some Jvm.ClassFile.FieldType.long)) 2 := ⟨g634, g39, g631, g633, g20, ⟨_, rfl, rfl⟩, ⟨by decide, by decide, by decide +kernel⟩⟩
theorem M_MD_126 : hq_MV gt vwCl "LayeredLauncherModel" 126 7 y_MD_orderOfWords b_MD_orderOfWords 8 ((Option.some Jvm.ClassFile.FieldType.int)) 1 := ⟨g644, g39, g641, g643, g22, ⟨_, rfl, rfl⟩, ⟨by decide, by decide, by decide +kernel⟩⟩
theorem M_MD_130 : hq_MV gt vwCl "LayeredLauncherModel" 130 7 y_MD_firstIs b_MD_firstIs 3 ((Option.none : Option Jvm.ClassFile.FieldType)) 1 := ⟨g622, g39, g619, g621, g17, ⟨_, rfl, rfl⟩, ⟨by decide, by decide, by decide +kernel⟩⟩
theorem M_MD_134 : hq_MV gt vwCl "LayeredLauncherModel" 134 7 y_MD_secondIs b_MD_secondIs 4 ((Option.none : Option Jvm.ClassFile.FieldType)) 2 := ⟨g626, g39, g623, g625, g18, ⟨_, rfl, rfl⟩, ⟨by decide, by decide, by decide +kernel⟩⟩
theorem M_MD_138 : hq_MV gt vwCl "LayeredLauncherModel" 138 7 y_MD_order b_MD_order 7 ((Option.some Jvm.ClassFile.FieldType.int)) 0 := ⟨g630, g39, g627, g629, g19, ⟨_, rfl, rfl⟩, ⟨by decide, by decide, by decide +kernel⟩⟩
theorem M_MD_142 : hq_MV gt vwCl "LayeredLauncherModel" 142 7 y_MD_orderTo b_MD_orderTo 4 ((Option.some Jvm.ClassFile.FieldType.int)) 3 := ⟨g618, g39, g615, g617, g16, ⟨_, rfl, rfl⟩, ⟨by decide, by decide, by decide +kernel⟩⟩
theorem M_MD_146 : hq_MV gt vwCl "LayeredLauncherModel" 146 7 y_MD_colonAt b_MD_colonAt 2 ((Option.some Jvm.ClassFile.FieldType.int)) 0 := ⟨g594, g39, g591, g593, g10, ⟨_, rfl, rfl⟩, ⟨by decide, by decide, by decide +kernel⟩⟩
theorem M_MD_149 : hq_MV gt vwCl "LayeredLauncherModel" 149 7 y_MD_hasName b_MD_hasName 4 ((Option.some Jvm.ClassFile.FieldType.boolean)) 2 := ⟨g614, g39, g611, g613, g15, ⟨_, rfl, rfl⟩, ⟨by decide, by decide, by decide +kernel⟩⟩
theorem M_MD_152 : hq_MV gt vwCl "LayeredLauncherModel" 152 7 y_MD_holds b_MD_holds 5 ((Option.some Jvm.ClassFile.FieldType.boolean)) 2 := ⟨g688, g39, g685, g687, g27, ⟨_, rfl, rfl⟩, ⟨by decide, by decide, by decide +kernel⟩⟩
theorem M_MD_155 : hq_MV gt vwCl "LayeredLauncherModel" 155 7 y_MD_isAbove b_MD_isAbove 4 ((Option.some Jvm.ClassFile.FieldType.boolean)) 2 := ⟨g692, g39, g689, g691, g28, ⟨_, rfl, rfl⟩, ⟨by decide, by decide, by decide +kernel⟩⟩
theorem M_MD_158 : hq_MV gt vwCl "LayeredLauncherModel" 158 7 y_MD_take b_MD_take 2 ((Option.none : Option Jvm.ClassFile.FieldType)) 0 := ⟨g590, g39, g587, g589, g9, ⟨_, rfl, rfl⟩, ⟨by decide, by decide, by decide +kernel⟩⟩
theorem M_MD_161 : hq_MV gt vwCl "LayeredLauncherModel" 161 7 y_MD_isName b_MD_isName 4 ((Option.some Jvm.ClassFile.FieldType.boolean)) 2 := ⟨g598, g39, g595, g597, g11, ⟨_, rfl, rfl⟩, ⟨by decide, by decide, by decide +kernel⟩⟩
theorem M_MD_164 : hq_MV gt vwCl "LayeredLauncherModel" 164 7 y_MD_none b_MD_none 2 ((Option.some Jvm.ClassFile.FieldType.boolean)) 1 := ⟨g652, g39, g649, g651, g23, ⟨_, rfl, rfl⟩, ⟨by decide, by decide, by decide +kernel⟩⟩
theorem M_MD_167 : hq_MV gt vwCl "LayeredLauncherModel" 167 7 y_MD_isRange b_MD_isRange 4 ((Option.some Jvm.ClassFile.FieldType.boolean)) 2 := ⟨g656, g39, g653, g655, g24, ⟨_, rfl, rfl⟩, ⟨by decide, by decide, by decide +kernel⟩⟩
theorem M_MD_170 : hq_MV gt vwCl "LayeredLauncherModel" 170 7 y_MD_excluded b_MD_excluded 6 ((Option.some Jvm.ClassFile.FieldType.boolean)) 2 := ⟨g712, g39, g709, g711, g33, ⟨_, rfl, rfl⟩, ⟨by decide, by decide, by decide +kernel⟩⟩
theorem M_MD_173 : hq_MV gt vwCl "LayeredLauncherModel" 173 7 y_MD_takeDependency b_MD_takeDependency 3 ((Option.none : Option Jvm.ClassFile.FieldType)) 1 := ⟨g704, g39, g701, g703, g31, ⟨_, rfl, rfl⟩, ⟨by decide, by decide, by decide +kernel⟩⟩
theorem M_MD_176 : hq_MV gt vwCl "LayeredLauncherModel" 176 7 y_MD_barred b_MD_barred 4 ((Option.some Jvm.ClassFile.FieldType.boolean)) 2 := ⟨g708, g39, g705, g707, g32, ⟨_, rfl, rfl⟩, ⟨by decide, by decide, by decide +kernel⟩⟩
theorem M_MD_179 : hq_MV gt vwCl "LayeredLauncherModel" 179 7 y_MD_pick b_MD_pick 4 ((Option.some Jvm.ClassFile.FieldType.int)) 0 := ⟨g684, g39, g681, g683, g26, ⟨_, rfl, rfl⟩, ⟨by decide, by decide, by decide +kernel⟩⟩
theorem M_MD_182 : hq_MV gt vwCl "LayeredLauncherModel" 182 7 y_MD_add b_MD_add 6 ((Option.none : Option Jvm.ClassFile.FieldType)) 4 := ⟨g696, g39, g693, g695, g29, ⟨_, rfl, rfl⟩, ⟨by decide, by decide, by decide +kernel⟩⟩
theorem M_MD_186 : hq_MV gt vwCl "LayeredLauncherModel" 186 7 y_MD_need b_MD_need 5 ((Option.some Jvm.ClassFile.FieldType.int)) 2 := ⟨g700, g39, g697, g699, g30, ⟨_, rfl, rfl⟩, ⟨by decide, by decide, by decide +kernel⟩⟩
theorem M_MD_189 : hq_MV gt vwCl "LayeredLauncherModel" 189 7 y_MD_holders b_MD_holders 4 ((Option.some Jvm.ClassFile.FieldType.int)) 1 := ⟨g744, g39, g741, g743, g34, ⟨_, rfl, rfl⟩, ⟨by decide, by decide, by decide +kernel⟩⟩
