def hp_x (xs : Nat → Int32) (L : Nat) (i : Int32) : Option Int32 := (hp_ix i L).map xs
theorem hp_x_inv {xs : Nat → Int32} {L : Nat} {i v : Int32} (h : hp_x xs L i = some v) : v = xs i.toNatClampNeg ∧ vp_in i L := by
  obtain ⟨j, h5, rfl⟩ := Option.map_eq_some_iff.mp h
  obtain ⟨rfl, hin⟩ := hp_ix_inv h5
  exact ⟨rfl, hin⟩
theorem hq_sld {p : Program} {l : Launch} {e : Env} {R : Room} {s : State} {m : MethodId} {args : Array Value} {below : List Frame} {meth : Method} {c : Code} {H : Heap} {locs : List Loc} {cells slots : Nat} {Q : State → Prop} {cc : ByteArray} {pc : Nat} {ls : Array Slot} {rest : List Value} {A : Nat → Prop} {H0 : Heap} (hexec : p.tables.exec = Jvm.exec) (hb : c.code = cc) {b L : Nat} {xs : Nat → Int32} (hX : va_X b L xs s H0) (hbl : b < H0.size) (hbA : ¬ A b) (hS : va_S A H0 H locs) {i v : Int32} (hv : hp_x xs L i = some v) (hdg : decode cc pc = .ok (.iaload, 1))
    (kk : W p l e R s m args below meth c H locs cells slots Q (F0 m (pc + 1) ls (.int v :: rest))) : W p l e R s m args below meth c H locs cells slots Q (F0 m pc ls (.int i :: .ref b :: rest)) := by
  obtain ⟨rfl, hin⟩ := hp_x_inv hv
  exact va_sld hexec hb hX hbl hbA hS hin hdg kk
noncomputable def f_LW_law_L18 (xs : Nat → Int32) (L : Nat) : Nat → Option Nat → Option Nat → Int32 → hp_H → Option Unit
  | 0, _, _, _, _ => none
  | n + 1, y1, y2, y3, h =>
    if ((Int32.ofNat L) - (4 : Int32)) < y3 then (
      some ()) else (
      (hp_x xs L y3).bind fun x12 =>
      if (x12 &&& (15 : Int32)) = 0 then (
        (hp_x xs L (y3 + (1 : Int32))).bind fun x15 =>
        (hp_o h y1 0).bind fun b19 =>
        (f_LL_type h b19 x15).bind fun q17 =>
        (hp_x xs L (y3 + (1 : Int32))).bind fun x21 =>
        (hp_o q17.2 y2 7).bind fun b25 =>
        (f_MD_type q17.2 b25 x21).bind fun q23 =>
        if q17.1 = q23.1 then (
          f_LW_law_L18 xs L n y1 y2 (y3 + 4) q23.2) else (
          none)) else if (x12 &&& (15 : Int32)) = 1 then (
        (hp_o h y1 0).bind fun b31 =>
        (f_LL_wipe h b31).bind fun q29 =>
        (hp_o q29.2 y2 7).bind fun b35 =>
        (f_MD_wipe q29.2 b35).bind fun q33 =>
        if q29.1 = q33.1 then (
          f_LW_law_L18 xs L n y1 y2 (y3 + 4) q33.2) else (
          none)) else if (x12 &&& (15 : Int32)) = 2 then (
        (hp_o h y1 0).bind fun b41 =>
        (f_LL_publish h b41).bind fun q39 =>
        (hp_o q39.2 y2 7).bind fun b45 =>
        (f_MD_publish q39.2 b45).bind fun q43 =>
        if q39.1 = q43.1 then (
          f_LW_law_L18 xs L n y1 y2 (y3 + 4) q43.2) else (
          none)) else if (x12 &&& (15 : Int32)) = 3 then (
        (hp_x xs L (y3 + (1 : Int32))).bind fun x49 =>
        (hp_x xs L (y3 + (2 : Int32))).bind fun x51 =>
        if x51 = 0 then (
          (hp_o h y1 0).bind fun b56 =>
          (f_LL_depend h b56 x49 (0 : Int32)).bind fun q54 =>
          (hp_x xs L (y3 + (1 : Int32))).bind fun x58 =>
          (hp_x xs L (y3 + (2 : Int32))).bind fun x60 =>
          if x60 = 0 then (
            (hp_o q54.2 y2 7).bind fun b65 =>
            (f_MD_depend q54.2 b65 x58 (0 : Int32)).bind fun q63 =>
            if q54.1 = q63.1 then (
              f_LW_law_L18 xs L n y1 y2 (y3 + 4) q63.2) else (
              none)) else (
            (hp_o q54.2 y2 7).bind fun b70 =>
            (f_MD_depend q54.2 b70 x58 (1 : Int32)).bind fun q68 =>
            if q54.1 = q68.1 then (
              f_LW_law_L18 xs L n y1 y2 (y3 + 4) q68.2) else (
              none))) else (
          (hp_o h y1 0).bind fun b75 =>
          (f_LL_depend h b75 x49 (1 : Int32)).bind fun q73 =>
          (hp_x xs L (y3 + (1 : Int32))).bind fun x77 =>
          (hp_x xs L (y3 + (2 : Int32))).bind fun x79 =>
          if x79 = 0 then (
            (hp_o q73.2 y2 7).bind fun b84 =>
            (f_MD_depend q73.2 b84 x77 (0 : Int32)).bind fun q82 =>
            if q73.1 = q82.1 then (
              f_LW_law_L18 xs L n y1 y2 (y3 + 4) q82.2) else (
              none)) else (
            (hp_o q73.2 y2 7).bind fun b89 =>
            (f_MD_depend q73.2 b89 x77 (1 : Int32)).bind fun q87 =>
            if q73.1 = q87.1 then (
              f_LW_law_L18 xs L n y1 y2 (y3 + 4) q87.2) else (
              none)))) else if (x12 &&& (15 : Int32)) = 4 then (
        (hp_x xs L (y3 + (1 : Int32))).bind fun x93 =>
        (hp_o h y1 0).bind fun b97 =>
        (f_LL_exclude h b97 x93).bind fun q95 =>
        (hp_x xs L (y3 + (1 : Int32))).bind fun x99 =>
        (hp_o q95.2 y2 7).bind fun b103 =>
        (f_MD_exclude q95.2 b103 x99).bind fun q101 =>
        if q95.1 = q101.1 then (
          f_LW_law_L18 xs L n y1 y2 (y3 + 4) q101.2) else (
          none)) else if (x12 &&& (15 : Int32)) = 5 then (
        (hp_x xs L (y3 + (1 : Int32))).bind fun x107 =>
        (hp_x xs L (y3 + (2 : Int32))).bind fun x109 =>
        (hp_x xs L (y3 + (3 : Int32))).bind fun x111 =>
        if x111 = 0 then (
          (hp_o h y1 0).bind fun b116 =>
          (f_LL_pack h b116 x107 x109 (0 : Int32)).bind fun q114 =>
          (hp_x xs L (y3 + (1 : Int32))).bind fun x118 =>
          (hp_x xs L (y3 + (2 : Int32))).bind fun x120 =>
          (hp_x xs L (y3 + (3 : Int32))).bind fun x122 =>
          if x122 = 0 then (
            (hp_o q114.2 y2 7).bind fun b127 =>
            (f_MD_pack q114.2 b127 x118 x120 (0 : Int32)).bind fun q125 =>
            if q114.1 = q125.1 then (
              f_LW_law_L18 xs L n y1 y2 (y3 + 4) q125.2) else (
              none)) else (
            (hp_o q114.2 y2 7).bind fun b132 =>
            (f_MD_pack q114.2 b132 x118 x120 (1 : Int32)).bind fun q130 =>
            if q114.1 = q130.1 then (
              f_LW_law_L18 xs L n y1 y2 (y3 + 4) q130.2) else (
              none))) else (
          (hp_o h y1 0).bind fun b137 =>
          (f_LL_pack h b137 x107 x109 (1 : Int32)).bind fun q135 =>
          (hp_x xs L (y3 + (1 : Int32))).bind fun x139 =>
          (hp_x xs L (y3 + (2 : Int32))).bind fun x141 =>
          (hp_x xs L (y3 + (3 : Int32))).bind fun x143 =>
          if x143 = 0 then (
            (hp_o q135.2 y2 7).bind fun b148 =>
            (f_MD_pack q135.2 b148 x139 x141 (0 : Int32)).bind fun q146 =>
            if q135.1 = q146.1 then (
              f_LW_law_L18 xs L n y1 y2 (y3 + 4) q146.2) else (
              none)) else (
            (hp_o q135.2 y2 7).bind fun b153 =>
            (f_MD_pack q135.2 b153 x139 x141 (1 : Int32)).bind fun q151 =>
            if q135.1 = q151.1 then (
              f_LW_law_L18 xs L n y1 y2 (y3 + 4) q151.2) else (
              none)))) else if (x12 &&& (15 : Int32)) = 6 then (
        (hp_x xs L (y3 + (1 : Int32))).bind fun x157 =>
        (hp_o h y1 0).bind fun b161 =>
        (f_LL_retire h b161 x157).bind fun q159 =>
        (hp_x xs L (y3 + (1 : Int32))).bind fun x163 =>
        (hp_o q159.2 y2 7).bind fun b167 =>
        (f_MD_retire q159.2 b167 x163).bind fun q165 =>
        if q159.1 = q165.1 then (
          f_LW_law_L18 xs L n y1 y2 (y3 + 4) q165.2) else (
          none)) else if (x12 &&& (15 : Int32)) = 7 then (
        (hp_o h y1 0).bind fun b173 =>
        (f_LL_compare h b173).bind fun q171 =>
        (hp_o q171.2 y2 7).bind fun b177 =>
        (f_MD_compare q171.2 b177).bind fun q175 =>
        if q171.1 = q175.1 then (
          f_LW_law_L18 xs L n y1 y2 (y3 + 4) q175.2) else (
          none)) else if (x12 &&& (15 : Int32)) = 8 then (
        (hp_o h y1 0).bind fun b183 =>
        (f_LL_resolve h b183).bind fun q181 =>
        (hp_o q181.2 y2 7).bind fun b187 =>
        (f_MD_resolve q181.2 b187).bind fun q185 =>
        if q181.1 = q185.1 then (
          f_LW_law_L18 xs L n y1 y2 (y3 + 4) q185.2) else (
          none)) else if (x12 &&& (15 : Int32)) = 9 then (
        (hp_o h y1 0).bind fun b193 =>
        (f_LL_culprit h b193).bind fun q191 =>
        (hp_o q191.2 y2 7).bind fun b197 =>
        (f_MD_culprit q191.2 b197).bind fun q195 =>
        if q191.1 = q195.1 then (
          f_LW_law_L18 xs L n y1 y2 (y3 + 4) q195.2) else (
          none)) else if (x12 &&& (15 : Int32)) = 10 then (
        (hp_x xs L (y3 + (1 : Int32))).bind fun x201 =>
        (hp_o h y1 0).bind fun b205 =>
        (f_LL_entry h b205 x201).bind fun q203 =>
        (hp_x xs L (y3 + (1 : Int32))).bind fun x207 =>
        (hp_o q203.2 y2 7).bind fun b211 =>
        (f_MD_entry q203.2 b211 x207).bind fun q209 =>
        if q203.1 = q209.1 then (
          f_LW_law_L18 xs L n y1 y2 (y3 + 4) q209.2) else (
          none)) else if (x12 &&& (15 : Int32)) = 11 then (
        (hp_x xs L (y3 + (1 : Int32))).bind fun x215 =>
        (hp_o h y1 0).bind fun b219 =>
        (f_LL_depth h b219 x215).bind fun q217 =>
        (hp_x xs L (y3 + (1 : Int32))).bind fun x221 =>
        (hp_o q217.2 y2 7).bind fun b225 =>
        (f_MD_depth q217.2 b225 x221).bind fun q223 =>
        if q217.1 = q223.1 then (
          f_LW_law_L18 xs L n y1 y2 (y3 + 4) q223.2) else (
          none)) else if (x12 &&& (15 : Int32)) = 12 then (
        (hp_x xs L (y3 + (1 : Int32))).bind fun x229 =>
        (hp_o h y1 0).bind fun b233 =>
        (f_LL_parent h b233 x229).bind fun q231 =>
        (hp_x xs L (y3 + (1 : Int32))).bind fun x235 =>
        (hp_o q231.2 y2 7).bind fun b239 =>
        (f_MD_parent q231.2 b239 x235).bind fun q237 =>
        if q231.1 = q237.1 then (
          f_LW_law_L18 xs L n y1 y2 (y3 + 4) q237.2) else (
          none)) else if (x12 &&& (15 : Int32)) = 13 then (
        (hp_x xs L (y3 + (1 : Int32))).bind fun x243 =>
        (hp_x xs L (y3 + (2 : Int32))).bind fun x245 =>
        (hp_o h y1 0).bind fun b249 =>
        (f_LL_find h b249 x243 x245).bind fun q247 =>
        (hp_x xs L (y3 + (1 : Int32))).bind fun x251 =>
        (hp_x xs L (y3 + (2 : Int32))).bind fun x253 =>
        (hp_o q247.2 y2 7).bind fun b257 =>
        (f_MD_find q247.2 b257 x251 x253).bind fun q255 =>
        if q247.1 = q255.1 then (
          f_LW_law_L18 xs L n y1 y2 (y3 + 4) q255.2) else (
          none)) else if (x12 &&& (15 : Int32)) = 14 then (
        (hp_x xs L (y3 + (1 : Int32))).bind fun x261 =>
        (hp_x xs L (y3 + (2 : Int32))).bind fun x263 =>
        (hp_o h y1 0).bind fun b267 =>
        (f_LL_text h b267 x261 x263).bind fun q265 =>
        (hp_x xs L (y3 + (1 : Int32))).bind fun x269 =>
        (hp_x xs L (y3 + (2 : Int32))).bind fun x271 =>
        (hp_o q265.2 y2 7).bind fun b275 =>
        (f_MD_text q265.2 b275 x269 x271).bind fun q273 =>
        if q265.1 = q273.1 then (
          f_LW_law_L18 xs L n y1 y2 (y3 + 4) q273.2) else (
          none)) else if (x12 &&& (15 : Int32)) = 15 then (
        (hp_x xs L (y3 + (1 : Int32))).bind fun x279 =>
        (hp_o h y1 0).bind fun b283 =>
        (f_LL_count h b283 x279).bind fun q281 =>
        (hp_x xs L (y3 + (1 : Int32))).bind fun x285 =>
        (hp_o q281.2 y2 7).bind fun b289 =>
        (f_MD_count q281.2 b289 x285).bind fun q287 =>
        if q281.1 = q287.1 then (
          f_LW_law_L18 xs L n y1 y2 (y3 + 4) q287.2) else (
          none)) else (
        f_LW_law_L18 xs L n y1 y2 (y3 + 4) h))
noncomputable def f_LW_law (xs : Nat → Int32) (L : Nat) (h : hp_H) : Option Unit :=
  (some (hp_push h (.inr (0, [.null, .null, .int 0, .null, .null, .int 0])))).bind fun h3 =>
  (f_LL_init h3 h.2).bind fun q4 =>
  (some (hp_push q4 (.inr (7, [.int 0, .null, .int 0, .null, .int 0, .null, .null, .null, .null, .null, .null, .null, .null, .null, .null, .null, .null, .int 0, .int 0, .int 0, .null, .null, .null, .null, .null, .int 0, .null, .int 0, .int 0])))).bind fun h8 =>
  (f_MD_init h8 q4.2).bind fun q9 =>
  f_LW_law_L18 xs L 1000 (some h.2) (some q4.2) (0 : Int32) q9
