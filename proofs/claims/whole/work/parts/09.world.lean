set_option maxRecDepth 100000 in
set_option maxHeartbeats 4000000 in
/-- the classes' numbers and slots, as the tables have them -/
theorem hq_world {A : Array Value} {s : State} (hts : ∀ w ∈ lw_tbl, w.before A s = true) : ∃ G : hp_G, va_K G.1 vwCl (hp_tys G aTs) s ∧ hq_X s := by
  have htg : ∀ w ∈ gt, w.before A s = true := fun w hw => hts w (List.mem_filter.mp hw).1
  obtain ⟨c0, j0, k0⟩ := u_known (C := "LayeredLauncher") (T := T_LL) (N := 6) (n := 6) htg K_LL.2.1 (hts (.instantiable "LayeredLauncher" 6) (by decide +kernel))
  obtain ⟨c1, j1, k1⟩ := u_known (C := "LayeredLauncher$Line") (T := T_LN) (N := 3) (n := 3) htg K_LN.2.1 (hts (.instantiable "LayeredLauncher$Line" 3) (by decide +kernel))
  obtain ⟨c2, j2, k2⟩ := u_known (C := "LayeredLauncher$EntryList") (T := T_EL) (N := 5) (n := 5) htg K_EL.2.1 (hts (.instantiable "LayeredLauncher$EntryList" 5) (by decide +kernel))
  obtain ⟨c3, j3, k3⟩ := u_known (C := "LayeredLauncher$Artifact") (T := T_AR) (N := 8) (n := 8) htg K_AR.2.1 (hts (.instantiable "LayeredLauncher$Artifact" 8) (by decide +kernel))
  obtain ⟨c4, j4, k4⟩ := u_known (C := "LayeredLauncher$Dependency") (T := T_DP) (N := 5) (n := 5) htg K_DP.2.1 (hts (.instantiable "LayeredLauncher$Dependency" 5) (by decide +kernel))
  obtain ⟨c5, j5, k5⟩ := u_known (C := "LayeredLauncher$Range") (T := T_RG) (N := 5) (n := 5) htg K_RG.2.1 (hts (.instantiable "LayeredLauncher$Range" 5) (by decide +kernel))
  obtain ⟨c6, j6, k6⟩ := u_known (C := "LayeredLauncher$Version") (T := T_VS) (N := 1) (n := 1) htg K_VS.2.1 (hts (.instantiable "LayeredLauncher$Version" 1) (by decide +kernel))
  obtain ⟨c7, j7, k7⟩ := u_known (C := "LayeredLauncherModel") (T := T_MD) (N := 29) (n := 29) htg K_MD.2.1 (hts (.instantiable "LayeredLauncherModel" 29) (by decide +kernel))
  obtain ⟨a0, b0, p0, q0, f0, d0⟩ := Cond.arrayClass_spec (hts (.arrayClass .int) (by decide +kernel))
  obtain ⟨a1, b1, p1, q1, f1, d1⟩ := Cond.arrayClass_spec (hts (.arrayClass .long) (by decide +kernel))
  obtain ⟨a2, b2, p2, q2, f2, d2⟩ := Cond.arrayClass_spec (hts (.arrayClass .char) (by decide +kernel))
  obtain ⟨a3, b3, p3, q3, f3, d3⟩ := Cond.arrayClass_spec (hts (.arrayClass .boolean) (by decide +kernel))
  obtain ⟨p4, a4, b4, e4, -, f4, d4, q4⟩ := Cond.arrayOver_spec (hts (.arrayOver (.object "LayeredLauncher$Artifact")) (by decide +kernel))
  obtain ⟨p5, a5, b5, e5, -, f5, d5, q5⟩ := Cond.arrayOver_spec (hts (.arrayOver (.object "LayeredLauncher$Dependency")) (by decide +kernel))
  refine ⟨((fun k => match k with | 0 => c0 | 1 => c1 | 2 => c2 | 3 => c3 | 4 => c4 | 5 => c5 | 6 => c6 | _ => c7, fun k => match k with | 0 => j0 | 1 => j1 | 2 => j2 | 3 => j3 | 4 => j4 | 5 => j5 | 6 => j6 | _ => j7), fun k => match k with | 0 => a0 | 1 => a1 | 2 => a2 | 3 => a3 | 4 => a4 | _ => a5), ⟨?_, ?_⟩, ?_, ?_⟩
  · intro k q hq
    match k, hq with
    | 0, hq => cases hq; exact k0
    | 1, hq => cases hq; exact k1
    | 2, hq => cases hq; exact k2
    | 3, hq => cases hq; exact k3
    | 4, hq => cases hq; exact k4
    | 5, hq => cases hq; exact k5
    | 6, hq => cases hq; exact k6
    | 7, hq => cases hq; exact k7
    | k + 8, hq => simp [vwCl] at hq
  · intro k q hq
    match k, hq with
    | 0, hq => cases hq; exact ⟨fun N z => ⟨(fun k h => by cases h), b0, f0, p0, d0⟩, q0⟩
    | 1, hq => cases hq; exact ⟨fun N z => ⟨(fun k h => by cases h), b1, f1, p1, d1⟩, q1⟩
    | 2, hq => cases hq; exact ⟨fun N z => ⟨(fun k h => by cases h), b2, f2, p2, d2⟩, q2⟩
    | 3, hq => cases hq; exact ⟨fun N z => ⟨(fun k h => by cases h), b3, f3, p3, d3⟩, q3⟩
    | 4, hq => cases hq; exact ⟨fun N z => ⟨(fun k h => by cases h), b4, f4, p4, d4⟩, b4, p4, f4, d4, e4, q4⟩
    | 5, hq => cases hq; exact ⟨fun N z => ⟨(fun k h => by cases h), b5, f5, p5, d5⟩, b5, p5, f5, d5, e5, q5⟩
    | k + 6, hq => simp [hp_tys] at hq
  · exact fun q hq => va_Nw.of rfl (hts _ ((by decide +kernel : ∀ q ∈ hq_nw, Cond.methodLinkNest q.1 q.2.1 q.2.2.1 q.2.2.2 ∈ lw_tbl) q hq))
  · exact fun E hE => va_AO.of (hts _ ((by decide +kernel : ∀ E ∈ hq_ov, Cond.arrayOver (.object E) ∈ lw_tbl) E hE))
