set_option maxHeartbeats 4000000 in
set_option maxRecDepth 100000 in
/-- NestCells.isCell  -/
theorem c_X0_isCell (l : Launch) (dC : Nat → ClassId) (dI : Nat → Nat → Nat)  (cell : Int32)  : kMi l yX0_isCell wsX0_isCell ({ frames := 0, cells := 0, slots := 0, locals := 0 }) dC dI [] [] [.int cell] (kx_isCell cell) [] := by
  refine kMi_of (cc := cX0_isCell) (maxL := 1) (ret := (some .boolean)) (by decide) rfl (Nat.le_of_ble_eq_true rfl) ?_
  intro p e s m below meth c A ls hx hb hml hr hts hown hlocks hA hP hK hD hS hl
  have hl : lv_has ls 1 [(0, .int cell)] := hl
  refine lv_iload_n hx hb dX0_isCell_0 rfl (lv_at hl 0 rfl) ?_
  refine lv_if_lt (tgt := 14) hx hb dX0_isCell_1 (by decide) (fun h1_0 => ?_) (fun h1_0 => ?_)
  · skip
    refine lv_iconst (v := (nI 0)) hx hb dX0_isCell_14 (by decide) ?_
    exact kMi_zret hx hb hr hlocks hP hK hD hS dX0_isCell_15 (by decide) (by simp [kx_isCell, h1_0]) rfl
  · skip
    refine lv_iload_n hx hb dX0_isCell_4 rfl (lv_at hl 0 rfl) ?_
    refine lv_bipush (v := (nI 32)) hx hb dX0_isCell_5 (by decide) ?_
    refine lv_icmp_ge (tgt := 14) hx hb dX0_isCell_7 (by decide) (fun h7_1 => ?_) (fun h7_1 => ?_)
    · skip
      refine lv_iconst (v := (nI 0)) hx hb dX0_isCell_14 (by decide) ?_
      exact kMi_zret hx hb hr hlocks hP hK hD hS dX0_isCell_15 (by decide) (by simp [kx_isCell, h1_0, h7_1]) rfl
    · skip
      refine lv_iconst (v := (nI 1)) hx hb dX0_isCell_10 (by decide) ?_
      refine lv_goto (tgt := 15) hx hb dX0_isCell_11 (by decide) ?_
      exact kMi_zret hx hb hr hlocks hP hK hD hS dX0_isCell_15 (by decide) (by simp [kx_isCell, h1_0, h7_1]) rfl
set_option maxHeartbeats 4000000 in
set_option maxRecDepth 100000 in
/-- NestCells.holds  -/
theorem c_X0_holds (l : Launch) (dC : Nat → ClassId) (dI : Nat → Nat → Nat)  (set : Int32) (cell : Int32)  : kMi l yX0_holds wsX0_holds ({ frames := 0, cells := 0, slots := 0, locals := 0 }) dC dI [] [] [.int set, .int cell] (kx_holds set cell) [] := by
  refine kMi_of (cc := cX0_holds) (maxL := 2) (ret := (some .boolean)) (by decide) rfl (Nat.le_of_ble_eq_true rfl) ?_
  intro p e s m below meth c A ls hx hb hml hr hts hown hlocks hA hP hK hD hS hl
  have hl : lv_has ls 2 [(0, .int set), (1, .int cell)] := hl
  refine lv_iload_n hx hb dX0_holds_0 rfl (lv_at hl 0 rfl) ?_
  refine lv_iload_n hx hb dX0_holds_1 rfl (lv_at hl 1 rfl) ?_
  refine lv_iushr (v := (set.toUInt32 >>> (cell.toUInt32 &&& Int32.toUInt32 31)).toInt32) hx hb dX0_holds_2 rfl ?_
  refine lv_iconst (v := (nI 1)) hx hb dX0_holds_3 (by decide) ?_
  refine lv_iand hx hb dX0_holds_4 ?_
  refine lv_if_eq (tgt := 12) hx hb dX0_holds_5 (by decide) (fun h5_0 => ?_) (fun h5_0 => ?_)
  · skip
    refine lv_iconst (v := (nI 0)) hx hb dX0_holds_12 (by decide) ?_
    exact kMi_zret hx hb hr hlocks hP hK hD hS dX0_holds_13 (by decide) (by simp [kx_holds, h5_0]) rfl
  · skip
    refine lv_iconst (v := (nI 1)) hx hb dX0_holds_8 (by decide) ?_
    refine lv_goto (tgt := 13) hx hb dX0_holds_9 (by decide) ?_
    exact kMi_zret hx hb hr hlocks hP hK hD hS dX0_holds_13 (by decide) (by simp [kx_holds, h5_0]) rfl
set_option maxHeartbeats 4000000 in
set_option maxRecDepth 100000 in
/-- NestCells.forgetTransactions  -/
theorem c_X0_forgetTransactions (l : Launch) (dC : Nat → ClassId) (dI : Nat → Nat → Nat) (cA : ClassId) (h0 q0 q1 q2 q3 q4 q5 : Nat) (w ce nm tl tc tw : Nat → Int32) (T n z : Nat) (wtc wia off : Int32)   : kMv l yX0_forgetTransactions wsX0_forgetTransactions ({ frames := 0, cells := 0, slots := 0, locals := 0 }) dC dI [(cA, .int)] (wX0 cA h0 q0 q1 q2 q3 q4 q5 w ce nm tl tc tw T n z wtc wia off) [.ref h0] (wX0 cA h0 q0 q1 q2 q3 q4 q5 w ce nm tl tc tw 0 0 0 wtc wia off) := by
  refine kMv_of (cc := cX0_forgetTransactions) (maxL := 1) (ret := none) (by decide) rfl (Nat.le_of_ble_eq_true rfl) ?_
  intro p e s m below meth c A ls hx hb hml hr hts hown hlocks hA hP hK hD hS hl
  have hin : ∀ w ∈ u_ws RX0 TX0 12, w ∈ wsX0_forgetTransactions := by decide +kernel
  have hl : lv_has ls 1 [(0, .ref h0)] := hl
  refine lv_aload_n hx hb dX0_forgetTransactions_0 rfl (lv_at hl 0 rfl) ?_
  refine lv_iconst (v := (nI 0)) hx hb dX0_forgetTransactions_1 (by decide) ?_
  refine va_put (D := (dC, dI)) (ci := 0) (v := .int (nI 0)) (ty := .int) (C := RX0) (T := TX0) (N := 12) hx hb hts hin tyX0 tyX0_ok nmX0 hown hK hP hD hS 0 rfl rfl 6 (by decide) (hts (.fieldLink RX0 51 "NestCells" "transactions" "I") (by decide +kernel)) (fun _ h9 => h9) rfl (by decide +kernel) rfl rfl (Nat.le_of_ble_eq_true rfl) dX0_forgetTransactions_2 (fun H locs hP hD hS => ?_)
  have hP : va_P (dC, dI) vwCl (wX0 cA h0 q0 q1 q2 q3 q4 q5 w ce nm tl tc tw 0 n z wtc wia off) H := hP
  have hD : va_D A (wX0 cA h0 q0 q1 q2 q3 q4 q5 w ce nm tl tc tw 0 n z wtc wia off) := hD
  refine lv_aload_n hx hb dX0_forgetTransactions_5 rfl (lv_at hl 0 rfl) ?_
  refine lv_iconst (v := (nI 0)) hx hb dX0_forgetTransactions_6 (by decide) ?_
  refine va_put (D := (dC, dI)) (ci := 0) (v := .int (nI 0)) (ty := .int) (C := RX0) (T := TX0) (N := 12) hx hb hts hin tyX0 tyX0_ok nmX0 hown hK hP hD hS 0 rfl rfl 7 (by decide) (hts (.fieldLink RX0 71 "NestCells" "levels" "I") (by decide +kernel)) (fun _ h9 => h9) rfl (by decide +kernel) rfl rfl (Nat.le_of_ble_eq_true rfl) dX0_forgetTransactions_7 (fun H locs hP hD hS => ?_)
  have hP : va_P (dC, dI) vwCl (wX0 cA h0 q0 q1 q2 q3 q4 q5 w ce nm tl tc tw 0 0 z wtc wia off) H := hP
  have hD : va_D A (wX0 cA h0 q0 q1 q2 q3 q4 q5 w ce nm tl tc tw 0 0 z wtc wia off) := hD
  refine lv_aload_n hx hb dX0_forgetTransactions_10 rfl (lv_at hl 0 rfl) ?_
  refine lv_iconst (v := (nI 0)) hx hb dX0_forgetTransactions_11 (by decide) ?_
  refine va_put (D := (dC, dI)) (ci := 0) (v := .int (nI 0)) (ty := .int) (C := RX0) (T := TX0) (N := 12) hx hb hts hin tyX0 tyX0_ok nmX0 hown hK hP hD hS 0 rfl rfl 8 (by decide) (hts (.fieldLink RX0 82 "NestCells" "traces" "I") (by decide +kernel)) (fun _ h9 => h9) rfl (by decide +kernel) rfl rfl (Nat.le_of_ble_eq_true rfl) dX0_forgetTransactions_12 (fun H locs hP hD hS => ?_)
  have hP : va_P (dC, dI) vwCl (wX0 cA h0 q0 q1 q2 q3 q4 q5 w ce nm tl tc tw 0 0 0 wtc wia off) H := hP
  have hD : va_D A (wX0 cA h0 q0 q1 q2 q3 q4 q5 w ce nm tl tc tw 0 0 0 wtc wia off) := hD
  exact kMv_ret hx hb hr hlocks hP hK hD hS dX0_forgetTransactions_15 rfl
set_option maxHeartbeats 4000000 in
set_option maxRecDepth 100000 in
/-- NestCells.openLevel  -/
theorem c_X0_openLevel (l : Launch) (dC : Nat → ClassId) (dI : Nat → Nat → Nat) (cA : ClassId) (h0 q0 q1 q2 q3 q4 q5 : Nat) (w ce nm tl tc tw : Nat → Int32) (T n z : Nat) (wtc wia off : Int32) (name : Int32) (hn : n < 88) : kMv l yX0_openLevel wsX0_openLevel ({ frames := 0, cells := 0, slots := 0, locals := 0 }) dC dI [(cA, .int)] (wX0 cA h0 q0 q1 q2 q3 q4 q5 w ce nm tl tc tw T n z wtc wia off) [.ref h0, .int name] (wX0 cA h0 q0 q1 q2 q3 q4 q5 w ce (upd nm n name) tl tc tw T (n + 1) z wtc wia off) := by
  refine kMv_of (cc := cX0_openLevel) (maxL := 2) (ret := none) (by decide) rfl (Nat.le_of_ble_eq_true rfl) ?_
  intro p e s m below meth c A ls hx hb hml hr hts hown hlocks hA hP hK hD hS hl
  have hin : ∀ w ∈ u_ws RX0 TX0 12, w ∈ wsX0_openLevel := by decide +kernel
  have hl : lv_has ls 2 [(0, .ref h0), (1, .int name)] := hl
  refine lv_aload_n hx hb dX0_openLevel_0 rfl (lv_at hl 0 rfl) ?_
  refine va_get (D := (dC, dI)) (ci := 0) (v := .ref q2) (C := RX0) (T := TX0) (N := 12) hx hb hts hin hown hK hP 0 rfl rfl 2 (by decide) (hts (.fieldLink RX0 16 "NestCells" "levelName" "[I") (by decide +kernel)) (fun _ h9 => h9) rfl dX0_openLevel_1 ?_
  refine lv_aload_n hx hb dX0_openLevel_4 rfl (lv_at hl 0 rfl) ?_
  refine va_get (D := (dC, dI)) (ci := 0) (v := .int (nI n)) (C := RX0) (T := TX0) (N := 12) hx hb hts hin hown hK hP 0 rfl rfl 7 (by decide) (hts (.fieldLink RX0 71 "NestCells" "levels" "I") (by decide +kernel)) (fun _ h9 => h9) rfl dX0_openLevel_5 ?_
  refine lv_iload_n hx hb dX0_openLevel_8 rfl (lv_at hl 1 rfl) ?_
  refine kv_iast hx hb hK hP hD hS 3 0 rfl rfl (by omega) (by omega) dX0_openLevel_9 (fun H locs hP hD hS => ?_)
  have hP : va_P (dC, dI) vwCl (wX0 cA h0 q0 q1 q2 q3 q4 q5 w ce (upd nm n name) tl tc tw T n z wtc wia off) H := hP
  have hD : va_D A (wX0 cA h0 q0 q1 q2 q3 q4 q5 w ce (upd nm n name) tl tc tw T n z wtc wia off) := hD
  refine lv_aload_n hx hb dX0_openLevel_10 rfl (lv_at hl 0 rfl) ?_
  refine lv_dup hx hb dX0_openLevel_11 rfl ?_
  refine va_get (D := (dC, dI)) (ci := 0) (v := .int (nI n)) (C := RX0) (T := TX0) (N := 12) hx hb hts hin hown hK hP 0 rfl rfl 7 (by decide) (hts (.fieldLink RX0 71 "NestCells" "levels" "I") (by decide +kernel)) (fun _ h9 => h9) rfl dX0_openLevel_12 ?_
  refine lv_iconst (v := (nI 1)) hx hb dX0_openLevel_15 (by decide) ?_
  refine kv_addE (d := n + 1) hx hb (by omega) dX0_openLevel_16 ?_
  refine va_put (D := (dC, dI)) (ci := 0) (v := .int (nI (n + 1))) (ty := .int) (C := RX0) (T := TX0) (N := 12) hx hb hts hin tyX0 tyX0_ok nmX0 hown hK hP hD hS 0 rfl rfl 7 (by decide) (hts (.fieldLink RX0 71 "NestCells" "levels" "I") (by decide +kernel)) (fun _ h9 => h9) rfl (by decide +kernel) rfl rfl (Nat.le_of_ble_eq_true rfl) dX0_openLevel_17 (fun H locs hP hD hS => ?_)
  have hP : va_P (dC, dI) vwCl (wX0 cA h0 q0 q1 q2 q3 q4 q5 w ce (upd nm n name) tl tc tw T (n + 1) z wtc wia off) H := hP
  have hD : va_D A (wX0 cA h0 q0 q1 q2 q3 q4 q5 w ce (upd nm n name) tl tc tw T (n + 1) z wtc wia off) := hD
  exact kMv_ret hx hb hr hlocks hP hK hD hS dX0_openLevel_20 rfl
set_option maxHeartbeats 4000000 in
set_option maxRecDepth 100000 in
/-- NestCells.leaveTrace  -/
theorem c_X0_leaveTrace (l : Launch) (dC : Nat → ClassId) (dI : Nat → Nat → Nat) (cA : ClassId) (h0 q0 q1 q2 q3 q4 q5 : Nat) (w ce nm tl tc tw : Nat → Int32) (T n z : Nat) (wtc wia off : Int32) (lev : Nat) (cell : Nat) (hz : z < 60) (hc : cell < 32) : kMv l yX0_leaveTrace wsX0_leaveTrace ({ frames := 0, cells := 0, slots := 0, locals := 0 }) dC dI [(cA, .int)] (wX0 cA h0 q0 q1 q2 q3 q4 q5 w ce nm tl tc tw T n z wtc wia off) [.ref h0, .int (nI lev), .int (nI cell)] (wX0 cA h0 q0 q1 q2 q3 q4 q5 w ce nm (upd tl z (nI lev)) (upd tc z (nI cell)) (upd tw z (ce cell)) T n (z + 1) wtc wia off) := by
  refine kMv_of (cc := cX0_leaveTrace) (maxL := 3) (ret := none) (by decide) rfl (Nat.le_of_ble_eq_true rfl) ?_
  intro p e s m below meth c A ls hx hb hml hr hts hown hlocks hA hP hK hD hS hl
  have hin : ∀ w ∈ u_ws RX0 TX0 12, w ∈ wsX0_leaveTrace := by decide +kernel
  have hl : lv_has ls 3 [(0, .ref h0), (1, .int (nI lev)), (2, .int (nI cell))] := hl
  refine lv_aload_n hx hb dX0_leaveTrace_0 rfl (lv_at hl 0 rfl) ?_
  refine va_get (D := (dC, dI)) (ci := 0) (v := .ref q3) (C := RX0) (T := TX0) (N := 12) hx hb hts hin hown hK hP 0 rfl rfl 3 (by decide) (hts (.fieldLink RX0 19 "NestCells" "traceLevel" "[I") (by decide +kernel)) (fun _ h9 => h9) rfl dX0_leaveTrace_1 ?_
  refine lv_aload_n hx hb dX0_leaveTrace_4 rfl (lv_at hl 0 rfl) ?_
  refine va_get (D := (dC, dI)) (ci := 0) (v := .int (nI z)) (C := RX0) (T := TX0) (N := 12) hx hb hts hin hown hK hP 0 rfl rfl 8 (by decide) (hts (.fieldLink RX0 82 "NestCells" "traces" "I") (by decide +kernel)) (fun _ h9 => h9) rfl dX0_leaveTrace_5 ?_
  refine lv_iload_n hx hb dX0_leaveTrace_8 rfl (lv_at hl 1 rfl) ?_
  refine kv_iast hx hb hK hP hD hS 4 0 rfl rfl (by omega) (by omega) dX0_leaveTrace_9 (fun H locs hP hD hS => ?_)
  have hP : va_P (dC, dI) vwCl (wX0 cA h0 q0 q1 q2 q3 q4 q5 w ce nm (upd tl z (nI lev)) tc tw T n z wtc wia off) H := hP
  have hD : va_D A (wX0 cA h0 q0 q1 q2 q3 q4 q5 w ce nm (upd tl z (nI lev)) tc tw T n z wtc wia off) := hD
  refine lv_aload_n hx hb dX0_leaveTrace_10 rfl (lv_at hl 0 rfl) ?_
  refine va_get (D := (dC, dI)) (ci := 0) (v := .ref q4) (C := RX0) (T := TX0) (N := 12) hx hb hts hin hown hK hP 0 rfl rfl 4 (by decide) (hts (.fieldLink RX0 22 "NestCells" "traceCell" "[I") (by decide +kernel)) (fun _ h9 => h9) rfl dX0_leaveTrace_11 ?_
  refine lv_aload_n hx hb dX0_leaveTrace_14 rfl (lv_at hl 0 rfl) ?_
  refine va_get (D := (dC, dI)) (ci := 0) (v := .int (nI z)) (C := RX0) (T := TX0) (N := 12) hx hb hts hin hown hK hP 0 rfl rfl 8 (by decide) (hts (.fieldLink RX0 82 "NestCells" "traces" "I") (by decide +kernel)) (fun _ h9 => h9) rfl dX0_leaveTrace_15 ?_
  refine lv_iload_n hx hb dX0_leaveTrace_18 rfl (lv_at hl 2 rfl) ?_
  refine kv_iast hx hb hK hP hD hS 5 0 rfl rfl (by omega) (by omega) dX0_leaveTrace_19 (fun H locs hP hD hS => ?_)
  have hP : va_P (dC, dI) vwCl (wX0 cA h0 q0 q1 q2 q3 q4 q5 w ce nm (upd tl z (nI lev)) (upd tc z (nI cell)) tw T n z wtc wia off) H := hP
  have hD : va_D A (wX0 cA h0 q0 q1 q2 q3 q4 q5 w ce nm (upd tl z (nI lev)) (upd tc z (nI cell)) tw T n z wtc wia off) := hD
  refine lv_aload_n hx hb dX0_leaveTrace_20 rfl (lv_at hl 0 rfl) ?_
  refine va_get (D := (dC, dI)) (ci := 0) (v := .ref q5) (C := RX0) (T := TX0) (N := 12) hx hb hts hin hown hK hP 0 rfl rfl 5 (by decide) (hts (.fieldLink RX0 25 "NestCells" "traceWas" "[I") (by decide +kernel)) (fun _ h9 => h9) rfl dX0_leaveTrace_21 ?_
  refine lv_aload_n hx hb dX0_leaveTrace_24 rfl (lv_at hl 0 rfl) ?_
  refine va_get (D := (dC, dI)) (ci := 0) (v := .int (nI z)) (C := RX0) (T := TX0) (N := 12) hx hb hts hin hown hK hP 0 rfl rfl 8 (by decide) (hts (.fieldLink RX0 82 "NestCells" "traces" "I") (by decide +kernel)) (fun _ h9 => h9) rfl dX0_leaveTrace_25 ?_
  refine lv_aload_n hx hb dX0_leaveTrace_28 rfl (lv_at hl 0 rfl) ?_
  refine va_get (D := (dC, dI)) (ci := 0) (v := .ref q1) (C := RX0) (T := TX0) (N := 12) hx hb hts hin hown hK hP 0 rfl rfl 1 (by decide) (hts (.fieldLink RX0 13 "NestCells" "cells" "[I") (by decide +kernel)) (fun _ h9 => h9) rfl dX0_leaveTrace_29 ?_
  refine lv_iload_n hx hb dX0_leaveTrace_32 rfl (lv_at hl 2 rfl) ?_
  refine kv_iald hx hb hK hP 2 0 rfl rfl (by omega) (by omega) dX0_leaveTrace_33 ?_
  refine kv_iast hx hb hK hP hD hS 6 0 rfl rfl (by omega) (by omega) dX0_leaveTrace_34 (fun H locs hP hD hS => ?_)
  have hP : va_P (dC, dI) vwCl (wX0 cA h0 q0 q1 q2 q3 q4 q5 w ce nm (upd tl z (nI lev)) (upd tc z (nI cell)) (upd tw z (ce cell)) T n z wtc wia off) H := hP
  have hD : va_D A (wX0 cA h0 q0 q1 q2 q3 q4 q5 w ce nm (upd tl z (nI lev)) (upd tc z (nI cell)) (upd tw z (ce cell)) T n z wtc wia off) := hD
  refine lv_aload_n hx hb dX0_leaveTrace_35 rfl (lv_at hl 0 rfl) ?_
  refine lv_dup hx hb dX0_leaveTrace_36 rfl ?_
  refine va_get (D := (dC, dI)) (ci := 0) (v := .int (nI z)) (C := RX0) (T := TX0) (N := 12) hx hb hts hin hown hK hP 0 rfl rfl 8 (by decide) (hts (.fieldLink RX0 82 "NestCells" "traces" "I") (by decide +kernel)) (fun _ h9 => h9) rfl dX0_leaveTrace_37 ?_
  refine lv_iconst (v := (nI 1)) hx hb dX0_leaveTrace_40 (by decide) ?_
  refine kv_addE (d := z + 1) hx hb (by omega) dX0_leaveTrace_41 ?_
  refine va_put (D := (dC, dI)) (ci := 0) (v := .int (nI (z + 1))) (ty := .int) (C := RX0) (T := TX0) (N := 12) hx hb hts hin tyX0 tyX0_ok nmX0 hown hK hP hD hS 0 rfl rfl 8 (by decide) (hts (.fieldLink RX0 82 "NestCells" "traces" "I") (by decide +kernel)) (fun _ h9 => h9) rfl (by decide +kernel) rfl rfl (Nat.le_of_ble_eq_true rfl) dX0_leaveTrace_42 (fun H locs hP hD hS => ?_)
  have hP : va_P (dC, dI) vwCl (wX0 cA h0 q0 q1 q2 q3 q4 q5 w ce nm (upd tl z (nI lev)) (upd tc z (nI cell)) (upd tw z (ce cell)) T n (z + 1) wtc wia off) H := hP
  have hD : va_D A (wX0 cA h0 q0 q1 q2 q3 q4 q5 w ce nm (upd tl z (nI lev)) (upd tc z (nI cell)) (upd tw z (ce cell)) T n (z + 1) wtc wia off) := hD
  exact kMv_ret hx hb hr hlocks hP hK hD hS dX0_leaveTrace_45 rfl
set_option maxHeartbeats 4000000 in
set_option maxRecDepth 100000 in
/-- NestCells.crash  -/
theorem c_X0_crash (l : Launch) (dC : Nat → ClassId) (dI : Nat → Nat → Nat) (cA : ClassId) (h0 q0 q1 q2 q3 q4 q5 : Nat) (w ce nm tl tc tw : Nat → Int32) (T n z : Nat) (wtc wia off : Int32) (c1 : Int32)  : kMv l yX0_crash wsX0_crash ({ frames := 0, cells := 0, slots := 0, locals := 0 }) dC dI [(cA, .int)] (wX0 cA h0 q0 q1 q2 q3 q4 q5 w ce nm tl tc tw T n z wtc wia off) [.ref h0, .int c1] (wX0 cA h0 q0 q1 q2 q3 q4 q5 w ce nm tl tc tw T n z (if nI 1 ≤ c1 then c1 else nI 0) wia off) := by
  refine kMv_of (cc := cX0_crash) (maxL := 2) (ret := none) (by decide) rfl (Nat.le_of_ble_eq_true rfl) ?_
  intro p e s m below meth c A ls hx hb hml hr hts hown hlocks hA hP hK hD hS hl
  have hin : ∀ w ∈ u_ws RX0 TX0 12, w ∈ wsX0_crash := by decide +kernel
  have hl : lv_has ls 2 [(0, .ref h0), (1, .int c1)] := hl
  refine lv_aload_n hx hb dX0_crash_0 rfl (lv_at hl 0 rfl) ?_
  refine lv_iload_n hx hb dX0_crash_1 rfl (lv_at hl 1 rfl) ?_
  refine lv_iconst (v := (nI 1)) hx hb dX0_crash_2 (by decide) ?_
  refine lv_icmp_ge (tgt := 10) hx hb dX0_crash_3 (by decide) (fun h3_0 => ?_) (fun h3_0 => ?_)
  · skip
    refine lv_iload_n hx hb dX0_crash_10 rfl (lv_at hl 1 rfl) ?_
    refine va_put (D := (dC, dI)) (ci := 0) (v := .int c1) (ty := .int) (C := RX0) (T := TX0) (N := 12) hx hb hts hin tyX0 tyX0_ok nmX0 hown hK hP hD hS 0 rfl rfl 9 (by decide) (hts (.fieldLink RX0 37 "NestCells" "writesTillCrash" "I") (by decide +kernel)) (fun _ h9 => h9) rfl (by decide +kernel) rfl rfl (Nat.le_of_ble_eq_true rfl) dX0_crash_11 (fun H locs hP hD hS => ?_)
    have hP : va_P (dC, dI) vwCl (wX0 cA h0 q0 q1 q2 q3 q4 q5 w ce nm tl tc tw T n z c1 wia off) H := hP
    have hD : va_D A (wX0 cA h0 q0 q1 q2 q3 q4 q5 w ce nm tl tc tw T n z c1 wia off) := hD
    exact kMv_ret hx hb hr hlocks hP hK hD hS dX0_crash_14 (by simp [h3_0])
  · skip
    refine lv_iconst (v := (nI 0)) hx hb dX0_crash_6 (by decide) ?_
    refine lv_goto (tgt := 11) hx hb dX0_crash_7 (by decide) ?_
    refine va_put (D := (dC, dI)) (ci := 0) (v := .int (nI 0)) (ty := .int) (C := RX0) (T := TX0) (N := 12) hx hb hts hin tyX0 tyX0_ok nmX0 hown hK hP hD hS 0 rfl rfl 9 (by decide) (hts (.fieldLink RX0 37 "NestCells" "writesTillCrash" "I") (by decide +kernel)) (fun _ h9 => h9) rfl (by decide +kernel) rfl rfl (Nat.le_of_ble_eq_true rfl) dX0_crash_11 (fun H locs hP hD hS => ?_)
    have hP : va_P (dC, dI) vwCl (wX0 cA h0 q0 q1 q2 q3 q4 q5 w ce nm tl tc tw T n z (nI 0) wia off) H := hP
    have hD : va_D A (wX0 cA h0 q0 q1 q2 q3 q4 q5 w ce nm tl tc tw T n z (nI 0) wia off) := hD
    exact kMv_ret hx hb hr hlocks hP hK hD hS dX0_crash_14 (by simp [h3_0])
set_option maxHeartbeats 4000000 in
set_option maxRecDepth 100000 in
/-- NestCells.innermostLevel  -/
theorem c_X0_innermostLevel (l : Launch) (dC : Nat → ClassId) (dI : Nat → Nat → Nat) (cA : ClassId) (h0 q0 q1 q2 q3 q4 q5 : Nat) (w ce nm tl tc tw : Nat → Int32) (T n z : Nat) (wtc wia off : Int32)  (hn : n ≤ 88) : kMi l yX0_innermostLevel wsX0_innermostLevel ({ frames := 0, cells := 0, slots := 0, locals := 0 }) dC dI [(cA, .int)] (wX0 cA h0 q0 q1 q2 q3 q4 q5 w ce nm tl tc tw T n z wtc wia off) [.ref h0] (nI (kx_inn nm n) - nI 1) (wX0 cA h0 q0 q1 q2 q3 q4 q5 w ce nm tl tc tw T n z wtc wia off) := by
  refine kMi_of (cc := cX0_innermostLevel) (maxL := 2) (ret := (some .int)) (by decide) rfl (Nat.le_of_ble_eq_true rfl) ?_
  intro p e s m below meth c A ls hx hb hml hr hts hown hlocks hA hP hK hD hS hl
  have hin : ∀ w ∈ u_ws RX0 TX0 12, w ∈ wsX0_innermostLevel := by decide +kernel
  have hl : lv_has ls 2 [(0, .ref h0)] := hl
  refine lv_aload_n hx hb dX0_innermostLevel_0 rfl (lv_at hl 0 rfl) ?_
  refine va_get (D := (dC, dI)) (ci := 0) (v := .int (nI n)) (C := RX0) (T := TX0) (N := 12) hx hb hts hin hown hK hP 0 rfl rfl 7 (by decide) (hts (.fieldLink RX0 71 "NestCells" "levels" "I") (by decide +kernel)) (fun _ h9 => h9) rfl dX0_innermostLevel_1 ?_
  refine lv_iconst (v := (nI 1)) hx hb dX0_innermostLevel_4 (by decide) ?_
  refine lv_isub hx hb dX0_innermostLevel_5 ?_
  refine lv_istore_n (lv' := [(1, .int ((nI n) - (nI 1))), (0, .ref h0)]) hx hb dX0_innermostLevel_6 rfl hl (by decide) rfl (fun ls hl => ?_)
  have lp : ∀ (k : Nat), ∀ (_ : k ≤ n), ∀ (_ : kx_inn nm k = kx_inn nm n), ∀ (H : Heap) (locs : List Loc) (ls : Array Slot), va_P (dC, dI) vwCl (wX0 cA h0 q0 q1 q2 q3 q4 q5 w ce nm tl tc tw T n z wtc wia off) H → va_D A (wX0 cA h0 q0 q1 q2 q3 q4 q5 w ce nm tl tc tw T n z wtc wia off) → va_S A s.heap H locs → lv_has ls 2 [(0, .ref h0), (1, .int (nI k - nI 1))] → W p l e (headSpec wsX0_innermostLevel ({ frames := 0, cells := 0, slots := 0, locals := 0 })).room s m ([.ref h0] : List Value).toArray below meth c H locs 0 0 (MQ below (va_Qi (fun (r' : Int32) (_ : Unit) => r' = (nI (kx_inn nm n) - nI 1)) (kB dC dI [(cA, .int)] (wX0 cA h0 q0 q1 q2 q3 q4 q5 w ce nm tl tc tw T n z wtc wia off) A) A) ([.ref h0] : List Value).toArray s 0 0 A) (F0 m 7 ls []) := by
    intro k
    induction k with
    | zero =>
      intro  hk he H locs ls hP hD hS hl
      refine lv_iload_n hx hb dX0_innermostLevel_7 rfl (lv_at hl 1 rfl) ?_
      refine lv_if_lt (tgt := 27) hx hb dX0_innermostLevel_8 (by decide) (fun h8_0 => ?_) (fun h8_0 => ( h8_0 (by decide)).elim)
      refine lv_iload_n hx hb dX0_innermostLevel_27 rfl (lv_at hl 1 rfl) ?_
      exact kMi_ret hx hb hr hlocks hP hK hD hS dX0_innermostLevel_28 (by rw [← he]; rfl) rfl
    | succ k ih =>
      intro  hk he H locs ls hP hD hS hl
      have hl : lv_has ls 2 [(0, .ref h0), (1, .int (nI k))] := by rw [← kv_pred k]; exact hl
      refine lv_iload_n hx hb dX0_innermostLevel_7 rfl (lv_at hl 1 rfl) ?_
      refine kv_if_lt (tgt := 27) hx hb (by omega) dX0_innermostLevel_8 (by decide) ?_
      refine lv_aload_n hx hb dX0_innermostLevel_11 rfl (lv_at hl 0 rfl) ?_
      refine va_get (D := (dC, dI)) (ci := 0) (v := .ref q2) (C := RX0) (T := TX0) (N := 12) hx hb hts hin hown hK hP 0 rfl rfl 2 (by decide) (hts (.fieldLink RX0 16 "NestCells" "levelName" "[I") (by decide +kernel)) (fun _ h9 => h9) rfl dX0_innermostLevel_12 ?_
      refine lv_iload_n hx hb dX0_innermostLevel_15 rfl (lv_at hl 1 rfl) ?_
      refine kv_iald hx hb hK hP 3 0 rfl rfl (by omega) (by omega) dX0_innermostLevel_16 ?_
      refine lv_iconst (v := (-1)) hx hb dX0_innermostLevel_17 (by decide) ?_
      refine lv_icmp_eq (tgt := 27) hx hb dX0_innermostLevel_18 (by decide) (fun h18_0 => ?_) (fun h18_0 => ?_)
      · skip
        refine lv_iload_n hx hb dX0_innermostLevel_27 rfl (lv_at hl 1 rfl) ?_
        exact kMi_ret hx hb hr hlocks hP hK hD hS dX0_innermostLevel_28 (by rw [← he, kx_inn, if_pos h18_0, kv_pred]) rfl
      · skip
        refine lv_iinc (v := ((nI k) - nI 1)) (lv' := [(1, .int ((nI k) - nI 1)), (0, .ref h0)]) hx hb dX0_innermostLevel_21 hl (k := 1) rfl (kv_decr _) (by decide) rfl (fun ls hl => ?_)
        refine lv_goto (tgt := 7) hx hb dX0_innermostLevel_24 (by decide) ?_
        exact ih (by omega) (by rw [← he, kx_inn, if_neg h18_0]) _ _ _ hP hD hS (lv_sub hl [1, 0] rfl)
  exact lp n  (Nat.le_refl _) rfl _ _ _ hP hD hS (lv_sub hl [1, 0] rfl)
set_option maxHeartbeats 4000000 in
set_option maxRecDepth 100000 in
/-- NestCells.points  -/
theorem c_X0_points (l : Launch) (dC : Nat → ClassId) (dI : Nat → Nat → Nat) (cA : ClassId) (h0 q0 q1 q2 q3 q4 q5 : Nat) (w ce nm tl tc tw : Nat → Int32) (T n z : Nat) (wtc wia off : Int32)  (hn : n ≤ 88) : kMi l yX0_points wsX0_points ({ frames := 1, cells := 0, slots := 0, locals := 21 }) dC dI [(cA, .int)] (wX0 cA h0 q0 q1 q2 q3 q4 q5 w ce nm tl tc tw T n z wtc wia off) [.ref h0] (nI (n - kx_inn nm n)) (wX0 cA h0 q0 q1 q2 q3 q4 q5 w ce nm tl tc tw T n z wtc wia off) := by
  refine kMi_of (cc := cX0_points) (maxL := 1) (ret := (some .int)) (by decide) rfl (Nat.le_of_ble_eq_true rfl) ?_
  intro p e s m below meth c A ls hx hb hml hr hts hown hlocks hA hP hK hD hS hl
  have hin : ∀ w ∈ u_ws RX0 TX0 12, w ∈ wsX0_points := by decide +kernel
  have hl : lv_has ls 1 [(0, .ref h0)] := hl
  refine lv_aload_n hx hb dX0_points_0 rfl (lv_at hl 0 rfl) ?_
  refine va_get (D := (dC, dI)) (ci := 0) (v := .int (nI n)) (C := RX0) (T := TX0) (N := 12) hx hb hts hin hown hK hP 0 rfl rfl 7 (by decide) (hts (.fieldLink RX0 71 "NestCells" "levels" "I") (by decide +kernel)) (fun _ h9 => h9) rfl dX0_points_1 ?_
  refine lv_iconst (v := (nI 1)) hx hb dX0_points_4 (by decide) ?_
  refine lv_isub hx hb dX0_points_5 ?_
  refine lv_aload_n hx hb dX0_points_6 rfl (lv_at hl 0 rfl) ?_
  refine kv_Vi (Xr := []) (n := 0) (c_X0_innermostLevel l dC dI cA h0 q0 q1 q2 q3 q4 q5 w ce nm tl tc tw T n z wtc wia off  (by omega)) hx hb hml hown hts gX0_points_X0_innermostLevel rfl ⟨rfl, rfl⟩ (by decide +kernel) rfl ⟨Nat.le_of_ble_eq_true rfl, Nat.le_of_ble_eq_true rfl⟩ hK hP hD hS hA [0] [0, 1, 2, 3, 4, 5, 6] [] rfl rfl rfl (by decide) (by decide) (q0 := 0) rfl rfl rfl (by decide) hl.1 rfl (Nat.le_of_ble_eq_true rfl) dX0_points_7 ⟨Nat.zero_le _, Nat.zero_le _⟩ (fun H locs hP hD hS => ?_)
  have hP : va_P (dC, dI) vwCl (wX0 cA h0 q0 q1 q2 q3 q4 q5 w ce nm tl tc tw T n z wtc wia off) H := hP
  have hD : va_D A (wX0 cA h0 q0 q1 q2 q3 q4 q5 w ce nm tl tc tw T n z wtc wia off) := hD
  refine lv_isub hx hb dX0_points_10 ?_
  exact kMi_ret hx hb hr hlocks hP hK hD hS dX0_points_11 (kv_m1sub (kx_inn_le nm n)) rfl
set_option maxHeartbeats 4000000 in
set_option maxRecDepth 100000 in
/-- NestCells.pointLevel  -/
theorem c_X0_pointLevel (l : Launch) (dC : Nat → ClassId) (dI : Nat → Nat → Nat) (cA : ClassId) (h0 q0 q1 q2 q3 q4 q5 : Nat) (w ce nm tl tc tw : Nat → Int32) (T n z : Nat) (wtc wia off : Int32) (name : Int32) (hn : n ≤ 88) : kMi l yX0_pointLevel wsX0_pointLevel ({ frames := 1, cells := 0, slots := 0, locals := 21 }) dC dI [(cA, .int)] (wX0 cA h0 q0 q1 q2 q3 q4 q5 w ce nm tl tc tw T n z wtc wia off) [.ref h0, .int name] (nI (kx_pl nm name (kx_inn nm n) n) - nI 1) (wX0 cA h0 q0 q1 q2 q3 q4 q5 w ce nm tl tc tw T n z wtc wia off) := by
  refine kMi_of (cc := cX0_pointLevel) (maxL := 4) (ret := (some .int)) (by decide) rfl (Nat.le_of_ble_eq_true rfl) ?_
  intro p e s m below meth c A ls hx hb hml hr hts hown hlocks hA hP hK hD hS hl
  have hin : ∀ w ∈ u_ws RX0 TX0 12, w ∈ wsX0_pointLevel := by decide +kernel
  have hl : lv_has ls 4 [(0, .ref h0), (1, .int name)] := hl
  refine lv_aload_n hx hb dX0_pointLevel_0 rfl (lv_at hl 0 rfl) ?_
  refine kv_Vi (Xr := []) (n := 0) (c_X0_innermostLevel l dC dI cA h0 q0 q1 q2 q3 q4 q5 w ce nm tl tc tw T n z wtc wia off  (by omega)) hx hb hml hown hts gX0_pointLevel_X0_innermostLevel rfl ⟨rfl, rfl⟩ (by decide +kernel) rfl ⟨Nat.le_of_ble_eq_true rfl, Nat.le_of_ble_eq_true rfl⟩ hK hP hD hS hA [0] [0, 1, 2, 3, 4, 5, 6] [] rfl rfl rfl (by decide) (by decide) (q0 := 0) rfl rfl rfl (by decide) hl.1 rfl (Nat.le_of_ble_eq_true rfl) dX0_pointLevel_1 ⟨Nat.zero_le _, Nat.zero_le _⟩ (fun H locs hP hD hS => ?_)
  have hP : va_P (dC, dI) vwCl (wX0 cA h0 q0 q1 q2 q3 q4 q5 w ce nm tl tc tw T n z wtc wia off) H := hP
  have hD : va_D A (wX0 cA h0 q0 q1 q2 q3 q4 q5 w ce nm tl tc tw T n z wtc wia off) := hD
  refine lv_istore_n (lv' := [(2, .int (nI (kx_inn nm n) - nI 1)), (0, .ref h0), (1, .int name)]) hx hb dX0_pointLevel_4 rfl hl (by decide) rfl (fun ls hl => ?_)
  refine lv_aload_n hx hb dX0_pointLevel_5 rfl (lv_at hl 1 rfl) ?_
  refine va_get (D := (dC, dI)) (ci := 0) (v := .int (nI n)) (C := RX0) (T := TX0) (N := 12) hx hb hts hin hown hK hP 0 rfl rfl 7 (by decide) (hts (.fieldLink RX0 71 "NestCells" "levels" "I") (by decide +kernel)) (fun _ h9 => h9) rfl dX0_pointLevel_6 ?_
  refine lv_iconst (v := (nI 1)) hx hb dX0_pointLevel_9 (by decide) ?_
  refine lv_isub hx hb dX0_pointLevel_10 ?_
  refine lv_istore_n (lv' := [(3, .int ((nI n) - (nI 1))), (2, .int (nI (kx_inn nm n) - nI 1)), (0, .ref h0), (1, .int name)]) hx hb dX0_pointLevel_11 rfl hl (by decide) rfl (fun ls hl => ?_)
  have hj := kx_inn_le nm n
  have lp : ∀ (k : Nat), ∀ (_ : k ≤ n), ∀ (_ : kx_pl nm name (kx_inn nm n) k = kx_pl nm name (kx_inn nm n) n), ∀ (H : Heap) (locs : List Loc) (ls : Array Slot), va_P (dC, dI) vwCl (wX0 cA h0 q0 q1 q2 q3 q4 q5 w ce nm tl tc tw T n z wtc wia off) H → va_D A (wX0 cA h0 q0 q1 q2 q3 q4 q5 w ce nm tl tc tw T n z wtc wia off) → va_S A s.heap H locs → lv_has ls 4 [(0, .ref h0), (1, .int name), (2, .int (nI (kx_inn nm n) - nI 1)), (3, .int (nI k - nI 1))] → W p l e (headSpec wsX0_pointLevel ({ frames := 1, cells := 0, slots := 0, locals := 21 })).room s m ([.ref h0, .int name] : List Value).toArray below meth c H locs 0 0 (MQ below (va_Qi (fun (r' : Int32) (_ : Unit) => r' = (nI (kx_pl nm name (kx_inn nm n) n) - nI 1)) (kB dC dI [(cA, .int)] (wX0 cA h0 q0 q1 q2 q3 q4 q5 w ce nm tl tc tw T n z wtc wia off) A) A) ([.ref h0, .int name] : List Value).toArray s 0 0 A) (F0 m 12 ls []) := by
    intro k
    induction k with
    | zero =>
      intro  hk he H locs ls hP hD hS hl
      refine lv_iload_n hx hb dX0_pointLevel_12 rfl (lv_at hl 3 rfl) ?_
      refine lv_iload_n hx hb dX0_pointLevel_13 rfl (lv_at hl 2 rfl) ?_
      refine lv_icmp_le (tgt := 35) hx hb dX0_pointLevel_14 (by decide) (fun h14_0 => ?_) (fun h14_0 => ( h14_0 ((kv_m1le (by omega) (by omega)).mpr (Nat.zero_le _))).elim)
      refine lv_iconst (v := (-1)) hx hb dX0_pointLevel_35 (by decide) ?_
      exact kMi_ret hx hb hr hlocks hP hK hD hS dX0_pointLevel_36 (by rw [← he]; rfl) rfl
    | succ k ih =>
      intro  hk he H locs ls hP hD hS hl
      refine lv_iload_n hx hb dX0_pointLevel_12 rfl (lv_at hl 3 rfl) ?_
      refine lv_iload_n hx hb dX0_pointLevel_13 rfl (lv_at hl 2 rfl) ?_
      refine lv_icmp_le (tgt := 35) hx hb dX0_pointLevel_14 (by decide) (fun h14_0 => ?_) (fun h14_0 => ?_)
      · skip
        refine lv_iconst (v := (-1)) hx hb dX0_pointLevel_35 (by decide) ?_
        exact kMi_ret hx hb hr hlocks hP hK hD hS dX0_pointLevel_36 (by rw [← he, kx_pl, if_pos ((kv_m1le (by omega) (by omega)).mp h14_0)]; rfl) rfl
      · skip
        have hkj : ¬ k + 1 ≤ kx_inn nm n := fun q => h14_0 ((kv_m1le (by omega) (by omega)).mpr q)
        have hl : lv_has ls 4 [(0, .ref h0), (1, .int name), (2, .int (nI (kx_inn nm n) - nI 1)), (3, .int (nI k))] := by rw [← kv_pred k]; exact hl
        refine lv_aload_n hx hb dX0_pointLevel_17 rfl (lv_at hl 0 rfl) ?_
        refine va_get (D := (dC, dI)) (ci := 0) (v := .ref q2) (C := RX0) (T := TX0) (N := 12) hx hb hts hin hown hK hP 0 rfl rfl 2 (by decide) (hts (.fieldLink RX0 16 "NestCells" "levelName" "[I") (by decide +kernel)) (fun _ h9 => h9) rfl dX0_pointLevel_18 ?_
        refine lv_iload_n hx hb dX0_pointLevel_21 rfl (lv_at hl 3 rfl) ?_
        refine kv_iald hx hb hK hP 3 0 rfl rfl (by omega) (by omega) dX0_pointLevel_22 ?_
        refine lv_iload_n hx hb dX0_pointLevel_23 rfl (lv_at hl 1 rfl) ?_
        refine lv_icmp_ne (tgt := 29) hx hb dX0_pointLevel_24 (by decide) (fun h24_1 => ?_) (fun h24_1 => ?_)
        · skip
          refine lv_iinc (v := ((nI k) - nI 1)) (lv' := [(3, .int ((nI k) - nI 1)), (0, .ref h0), (1, .int name), (2, .int (nI (kx_inn nm n) - nI 1))]) hx hb dX0_pointLevel_29 hl (k := 3) rfl (kv_decr _) (by decide) rfl (fun ls hl => ?_)
          refine lv_goto (tgt := 12) hx hb dX0_pointLevel_32 (by decide) ?_
          exact ih (by omega) (by rw [← he, kx_pl, if_neg hkj, if_neg h24_1]) _ _ _ hP hD hS (lv_sub hl [1, 2, 3, 0] rfl)
        · skip
          refine lv_iload_n hx hb dX0_pointLevel_27 rfl (lv_at hl 3 rfl) ?_
          exact kMi_ret hx hb hr hlocks hP hK hD hS dX0_pointLevel_28 (by rw [← he, kx_pl, if_neg hkj, if_pos h24_1, kv_pred]) rfl
  exact lp n  (Nat.le_refl _) rfl _ _ _ hP hD hS (lv_sub hl [2, 3, 1, 0] rfl)
set_option maxHeartbeats 4000000 in
set_option maxRecDepth 100000 in
/-- NestCells.tracedCells  -/
theorem c_X0_tracedCells (l : Launch) (dC : Nat → ClassId) (dI : Nat → Nat → Nat) (cA : ClassId) (h0 q0 q1 q2 q3 q4 q5 : Nat) (w ce nm tl tc tw : Nat → Int32) (T n z : Nat) (wtc wia off : Int32) (lev : Int32) (hz : z ≤ 60) : kMi l yX0_tracedCells wsX0_tracedCells ({ frames := 0, cells := 0, slots := 0, locals := 0 }) dC dI [(cA, .int)] (wX0 cA h0 q0 q1 q2 q3 q4 q5 w ce nm tl tc tw T n z wtc wia off) [.ref h0, .int lev] (kx_tc tl tc lev z) (wX0 cA h0 q0 q1 q2 q3 q4 q5 w ce nm tl tc tw T n z wtc wia off) := by
  refine kMi_of (cc := cX0_tracedCells) (maxL := 4) (ret := (some .int)) (by decide) rfl (Nat.le_of_ble_eq_true rfl) ?_
  intro p e s m below meth c A ls hx hb hml hr hts hown hlocks hA hP hK hD hS hl
  have hin : ∀ w ∈ u_ws RX0 TX0 12, w ∈ wsX0_tracedCells := by decide +kernel
  have hl : lv_has ls 4 [(0, .ref h0), (1, .int lev)] := hl
  refine lv_iconst (v := (nI 0)) hx hb dX0_tracedCells_0 (by decide) ?_
  refine lv_istore_n (lv' := [(2, .int (nI 0)), (0, .ref h0), (1, .int lev)]) hx hb dX0_tracedCells_1 rfl hl (by decide) rfl (fun ls hl => ?_)
  refine lv_iconst (v := (nI 0)) hx hb dX0_tracedCells_2 (by decide) ?_
  refine lv_istore_n (lv' := [(3, .int (nI 0)), (2, .int (nI 0)), (0, .ref h0), (1, .int lev)]) hx hb dX0_tracedCells_3 rfl hl (by decide) rfl (fun ls hl => ?_)
  have lp : ∀ (k : Nat) (t : Nat), ∀ (_ : t + k = z), ∀ (H : Heap) (locs : List Loc) (ls : Array Slot), va_P (dC, dI) vwCl (wX0 cA h0 q0 q1 q2 q3 q4 q5 w ce nm tl tc tw T n z wtc wia off) H → va_D A (wX0 cA h0 q0 q1 q2 q3 q4 q5 w ce nm tl tc tw T n z wtc wia off) → va_S A s.heap H locs → lv_has ls 4 [(0, .ref h0), (1, .int lev), (2, .int (kx_tc tl tc lev t)), (3, .int (nI t))] → W p l e (headSpec wsX0_tracedCells ({ frames := 0, cells := 0, slots := 0, locals := 0 })).room s m ([.ref h0, .int lev] : List Value).toArray below meth c H locs 0 0 (MQ below (va_Qi (fun (r' : Int32) (_ : Unit) => r' = (kx_tc tl tc lev z)) (kB dC dI [(cA, .int)] (wX0 cA h0 q0 q1 q2 q3 q4 q5 w ce nm tl tc tw T n z wtc wia off) A) A) ([.ref h0, .int lev] : List Value).toArray s 0 0 A) (F0 m 4 ls []) := by
    intro k
    induction k with
    | zero =>
      intro t ht H locs ls hP hD hS hl
      refine lv_iload_n hx hb dX0_tracedCells_4 rfl (lv_at hl 3 rfl) ?_
      refine lv_aload_n hx hb dX0_tracedCells_5 rfl (lv_at hl 0 rfl) ?_
      refine va_get (D := (dC, dI)) (ci := 0) (v := .int (nI z)) (C := RX0) (T := TX0) (N := 12) hx hb hts hin hown hK hP 0 rfl rfl 8 (by decide) (hts (.fieldLink RX0 82 "NestCells" "traces" "I") (by decide +kernel)) (fun _ h9 => h9) rfl dX0_tracedCells_6 ?_
      refine kv_ge (tgt := 39) hx hb (by omega) (by omega) dX0_tracedCells_9 (by decide) (fun h9_0 => ?_) (fun h9_0 => absurd h9_0 (by omega))
      refine lv_iload_n hx hb dX0_tracedCells_39 rfl (lv_at hl 2 rfl) ?_
      exact kMi_ret hx hb hr hlocks hP hK hD hS dX0_tracedCells_40 (by rw [show t = z by omega]) rfl
    | succ k ih =>
      intro t ht H locs ls hP hD hS hl
      refine lv_iload_n hx hb dX0_tracedCells_4 rfl (lv_at hl 3 rfl) ?_
      refine lv_aload_n hx hb dX0_tracedCells_5 rfl (lv_at hl 0 rfl) ?_
      refine va_get (D := (dC, dI)) (ci := 0) (v := .int (nI z)) (C := RX0) (T := TX0) (N := 12) hx hb hts hin hown hK hP 0 rfl rfl 8 (by decide) (hts (.fieldLink RX0 82 "NestCells" "traces" "I") (by decide +kernel)) (fun _ h9 => h9) rfl dX0_tracedCells_6 ?_
      refine kv_ge (tgt := 39) hx hb (by omega) (by omega) dX0_tracedCells_9 (by decide) (fun h9_0 => absurd h9_0 (by omega)) (fun h9_0 => ?_)
      refine lv_aload_n hx hb dX0_tracedCells_12 rfl (lv_at hl 0 rfl) ?_
      refine va_get (D := (dC, dI)) (ci := 0) (v := .ref q3) (C := RX0) (T := TX0) (N := 12) hx hb hts hin hown hK hP 0 rfl rfl 3 (by decide) (hts (.fieldLink RX0 19 "NestCells" "traceLevel" "[I") (by decide +kernel)) (fun _ h9 => h9) rfl dX0_tracedCells_13 ?_
      refine lv_iload_n hx hb dX0_tracedCells_16 rfl (lv_at hl 3 rfl) ?_
      refine kv_iald hx hb hK hP 4 0 rfl rfl (by omega) (by omega) dX0_tracedCells_17 ?_
      refine lv_iload_n hx hb dX0_tracedCells_18 rfl (lv_at hl 1 rfl) ?_
      refine lv_icmp_ne (tgt := 33) hx hb dX0_tracedCells_19 (by decide) (fun h19_0 => ?_) (fun h19_0 => ?_)
      · skip
        refine lv_iinc (v := (nI (t + 1))) (lv' := [(3, .int (nI (t + 1))), (0, .ref h0), (1, .int lev), (2, .int (kx_tc tl tc lev t))]) hx hb dX0_tracedCells_33 hl (k := 3) rfl (kv_inc _ 1 (by decide)) (by decide) rfl (fun ls hl => ?_)
        refine lv_goto (tgt := 4) hx hb dX0_tracedCells_36 (by decide) ?_
        have hl : lv_has ls 4 [(3, .int (nI (t + 1))), (0, .ref h0), (1, .int lev), (2, .int (kx_tc tl tc lev (t + 1)))] := by rw [kx_tc, if_neg h19_0]; exact hl
        exact ih (t + 1) (by omega) _ _ _ hP hD hS (lv_sub hl [1, 2, 3, 0] rfl)
      · skip
        refine lv_iload_n hx hb dX0_tracedCells_22 rfl (lv_at hl 2 rfl) ?_
        refine lv_iconst (v := (nI 1)) hx hb dX0_tracedCells_23 (by decide) ?_
        refine lv_aload_n hx hb dX0_tracedCells_24 rfl (lv_at hl 0 rfl) ?_
        refine va_get (D := (dC, dI)) (ci := 0) (v := .ref q4) (C := RX0) (T := TX0) (N := 12) hx hb hts hin hown hK hP 0 rfl rfl 4 (by decide) (hts (.fieldLink RX0 22 "NestCells" "traceCell" "[I") (by decide +kernel)) (fun _ h9 => h9) rfl dX0_tracedCells_25 ?_
        refine lv_iload_n hx hb dX0_tracedCells_28 rfl (lv_at hl 3 rfl) ?_
        refine kv_iald hx hb hK hP 5 0 rfl rfl (by omega) (by omega) dX0_tracedCells_29 ?_
        refine lv_ishl hx hb dX0_tracedCells_30 ?_
        refine lv_ior hx hb dX0_tracedCells_31 ?_
        refine lv_istore_n (lv' := [(2, .int ((kx_tc tl tc lev t) ||| ((nI 1) <<< ((tc t) &&& 31)))), (0, .ref h0), (1, .int lev), (3, .int (nI t))]) hx hb dX0_tracedCells_32 rfl hl (by decide) rfl (fun ls hl => ?_)
        refine lv_iinc (v := (nI (t + 1))) (lv' := [(3, .int (nI (t + 1))), (2, .int ((kx_tc tl tc lev t) ||| ((nI 1) <<< ((tc t) &&& 31)))), (0, .ref h0), (1, .int lev)]) hx hb dX0_tracedCells_33 hl (k := 3) rfl (kv_inc _ 1 (by decide)) (by decide) rfl (fun ls hl => ?_)
        refine lv_goto (tgt := 4) hx hb dX0_tracedCells_36 (by decide) ?_
        have hl : lv_has ls 4 [(3, .int (nI (t + 1))), (2, .int (kx_tc tl tc lev (t + 1))), (0, .ref h0), (1, .int lev)] := by rw [kx_tc, if_pos h19_0]; exact hl
        exact ih (t + 1) (by omega) _ _ _ hP hD hS (lv_sub hl [2, 3, 1, 0] rfl)
  exact lp z 0 (by omega) _ _ _ hP hD hS (lv_sub hl [2, 3, 1, 0] rfl)
