set_option maxHeartbeats 4000000 in
set_option maxRecDepth 100000 in
/-- NestCells.format  -/
theorem c_X0_format (l : Launch) (dC : Nat → ClassId) (dI : Nat → Nat → Nat) (cA : ClassId) (h0 q0 q1 q2 q3 q4 q5 : Nat) (w ce nm tl tc tw : Nat → Int32) (T n z : Nat) (wtc wia off : Int32)   : kMv l yX0_format wsX0_format ({ frames := 1, cells := 0, slots := 0, locals := 23 }) dC dI [(cA, .int)] (wX0 cA h0 q0 q1 q2 q3 q4 q5 w ce nm tl tc tw T n z wtc wia off) [.ref h0] (wX0 cA h0 q0 q1 q2 q3 q4 q5 (kx_fill w (nI 0) 98) (kx_fill ce (nI 0) 32) nm tl tc tw 0 0 0 (nI 0) (nI 0) (nI 0)) := by
  refine kMv_of (cc := cX0_format) (maxL := 1) (ret := none) (by decide) rfl (Nat.le_of_ble_eq_true rfl) ?_
  intro p e s m below meth c A ls hx hb hml hr hts hown hlocks hA hP hK hD hS hl
  have hin : ∀ w ∈ u_ws RX0 TX0 12, w ∈ wsX0_format := by decide +kernel
  have hl : lv_has ls 1 [(0, .ref h0)] := hl
  refine lv_aload_n hx hb dX0_format_0 rfl (lv_at hl 0 rfl) ?_
  refine va_get (D := (dC, dI)) (ci := 0) (v := .ref q0) (C := RX0) (T := TX0) (N := 12) hx hb hts hin hown hK hP 0 rfl rfl 0 (by decide) (hts (.fieldLink RX0 9 "NestCells" "words" "[I") (by decide +kernel)) (fun _ h9 => h9) rfl dX0_format_1 ?_
  refine lv_iconst (v := (nI 0)) hx hb dX0_format_4 (by decide) ?_
  refine kv_Sv (Xr := [(h0, .inr (0, [.ref q0, .ref q1, .ref q2, .ref q3, .ref q4, .ref q5, .int (nI T), .int (nI n), .int (nI z), .int wtc, .int wia, .int off])), (q1, .inl (cA, 32, .inl ce)), (q2, .inl (cA, 88, .inl nm)), (q3, .inl (cA, 60, .inl tl)), (q4, .inl (cA, 60, .inl tc)), (q5, .inl (cA, 60, .inl tw))]) (n := 2) (c_J7_fill_53178 l dC dI cA q0 98 w (nI 0) (by omega)) hx hb hml hown hts gX0_format_J7_fill_53178 rfl ⟨rfl, rfl⟩ (by decide +kernel) rfl ⟨Nat.le_of_ble_eq_true rfl, Nat.le_of_ble_eq_true rfl⟩ hK hP hD hS hA [0] [1] [0, 2, 3, 4, 5, 6] rfl rfl rfl (by decide) (by decide) rfl (by decide) hl.1 rfl (Nat.le_of_ble_eq_true rfl) dX0_format_5 ⟨Nat.zero_le _, Nat.zero_le _⟩ (fun H locs hP hD hS => ?_)
  have hP := hP.sub (ws' := (wX0 cA h0 q0 q1 q2 q3 q4 q5 (kx_fill w (nI 0) 98) ce nm tl tc tw T n z wtc wia off)) [0, 6, 1, 2, 3, 4, 5] rfl
  have hD := hD.sub (ws' := (wX0 cA h0 q0 q1 q2 q3 q4 q5 (kx_fill w (nI 0) 98) ce nm tl tc tw T n z wtc wia off)) [0, 6, 1, 2, 3, 4, 5] (by decide) rfl
  refine lv_aload_n hx hb dX0_format_8 rfl (lv_at hl 0 rfl) ?_
  refine va_get (D := (dC, dI)) (ci := 0) (v := .ref q1) (C := RX0) (T := TX0) (N := 12) hx hb hts hin hown hK hP 0 rfl rfl 1 (by decide) (hts (.fieldLink RX0 13 "NestCells" "cells" "[I") (by decide +kernel)) (fun _ h9 => h9) rfl dX0_format_9 ?_
  refine lv_iconst (v := (nI 0)) hx hb dX0_format_12 (by decide) ?_
  refine kv_Sv (Xr := [(h0, .inr (0, [.ref q0, .ref q1, .ref q2, .ref q3, .ref q4, .ref q5, .int (nI T), .int (nI n), .int (nI z), .int wtc, .int wia, .int off])), (q0, .inl (cA, 98, .inl (kx_fill w (nI 0) 98))), (q2, .inl (cA, 88, .inl nm)), (q3, .inl (cA, 60, .inl tl)), (q4, .inl (cA, 60, .inl tc)), (q5, .inl (cA, 60, .inl tw))]) (n := 2) (c_J7_fill_53178 l dC dI cA q1 32 ce (nI 0) (by omega)) hx hb hml hown hts gX0_format_J7_fill_53178 rfl ⟨rfl, rfl⟩ (by decide +kernel) rfl ⟨Nat.le_of_ble_eq_true rfl, Nat.le_of_ble_eq_true rfl⟩ hK hP hD hS hA [0] [2] [0, 1, 3, 4, 5, 6] rfl rfl rfl (by decide) (by decide) rfl (by decide) hl.1 rfl (Nat.le_of_ble_eq_true rfl) dX0_format_13 ⟨Nat.zero_le _, Nat.zero_le _⟩ (fun H locs hP hD hS => ?_)
  have hP := hP.sub (ws' := (wX0 cA h0 q0 q1 q2 q3 q4 q5 (kx_fill w (nI 0) 98) (kx_fill ce (nI 0) 32) nm tl tc tw T n z wtc wia off)) [0, 1, 6, 2, 3, 4, 5] rfl
  have hD := hD.sub (ws' := (wX0 cA h0 q0 q1 q2 q3 q4 q5 (kx_fill w (nI 0) 98) (kx_fill ce (nI 0) 32) nm tl tc tw T n z wtc wia off)) [0, 1, 6, 2, 3, 4, 5] (by decide) rfl
  refine lv_aload_n hx hb dX0_format_16 rfl (lv_at hl 0 rfl) ?_
  refine kv_Vv (Xr := []) (n := 0) (c_X0_forgetTransactions l dC dI cA h0 q0 q1 q2 q3 q4 q5 (kx_fill w (nI 0) 98) (kx_fill ce (nI 0) 32) nm tl tc tw T n z wtc wia off  ) hx hb hml hown hts gX0_format_X0_forgetTransactions rfl ⟨rfl, rfl⟩ (by decide +kernel) rfl ⟨Nat.le_of_ble_eq_true rfl, Nat.le_of_ble_eq_true rfl⟩ hK hP hD hS hA [0] [0, 1, 2, 3, 4, 5, 6] [] rfl rfl rfl (by decide) (by decide) (q0 := 0) rfl rfl rfl (by decide) hl.1 rfl (Nat.le_of_ble_eq_true rfl) dX0_format_17 ⟨Nat.zero_le _, Nat.zero_le _⟩ (fun H locs hP hD hS => ?_)
  have hP : va_P (dC, dI) vwCl (wX0 cA h0 q0 q1 q2 q3 q4 q5 (kx_fill w (nI 0) 98) (kx_fill ce (nI 0) 32) nm tl tc tw 0 0 0 wtc wia off) H := hP
  have hD : va_D A (wX0 cA h0 q0 q1 q2 q3 q4 q5 (kx_fill w (nI 0) 98) (kx_fill ce (nI 0) 32) nm tl tc tw 0 0 0 wtc wia off) := hD
  refine lv_aload_n hx hb dX0_format_20 rfl (lv_at hl 0 rfl) ?_
  refine lv_iconst (v := (nI 0)) hx hb dX0_format_21 (by decide) ?_
  refine va_put (D := (dC, dI)) (ci := 0) (v := .int (nI 0)) (ty := .int) (C := RX0) (T := TX0) (N := 12) hx hb hts hin tyX0 tyX0_ok nmX0 hown hK hP hD hS 0 rfl rfl 9 (by decide) (hts (.fieldLink RX0 37 "NestCells" "writesTillCrash" "I") (by decide +kernel)) (fun _ h9 => h9) rfl (by decide +kernel) rfl rfl (Nat.le_of_ble_eq_true rfl) dX0_format_22 (fun H locs hP hD hS => ?_)
  have hP : va_P (dC, dI) vwCl (wX0 cA h0 q0 q1 q2 q3 q4 q5 (kx_fill w (nI 0) 98) (kx_fill ce (nI 0) 32) nm tl tc tw 0 0 0 (nI 0) wia off) H := hP
  have hD : va_D A (wX0 cA h0 q0 q1 q2 q3 q4 q5 (kx_fill w (nI 0) 98) (kx_fill ce (nI 0) 32) nm tl tc tw 0 0 0 (nI 0) wia off) := hD
  refine lv_aload_n hx hb dX0_format_25 rfl (lv_at hl 0 rfl) ?_
  refine lv_iconst (v := (nI 0)) hx hb dX0_format_26 (by decide) ?_
  refine va_put (D := (dC, dI)) (ci := 0) (v := .int (nI 0)) (ty := .int) (C := RX0) (T := TX0) (N := 12) hx hb hts hin tyX0 tyX0_ok nmX0 hown hK hP hD hS 0 rfl rfl 10 (by decide) (hts (.fieldLink RX0 41 "NestCells" "writesInAll" "I") (by decide +kernel)) (fun _ h9 => h9) rfl (by decide +kernel) rfl rfl (Nat.le_of_ble_eq_true rfl) dX0_format_27 (fun H locs hP hD hS => ?_)
  have hP : va_P (dC, dI) vwCl (wX0 cA h0 q0 q1 q2 q3 q4 q5 (kx_fill w (nI 0) 98) (kx_fill ce (nI 0) 32) nm tl tc tw 0 0 0 (nI 0) (nI 0) off) H := hP
  have hD : va_D A (wX0 cA h0 q0 q1 q2 q3 q4 q5 (kx_fill w (nI 0) 98) (kx_fill ce (nI 0) 32) nm tl tc tw 0 0 0 (nI 0) (nI 0) off) := hD
  refine lv_aload_n hx hb dX0_format_30 rfl (lv_at hl 0 rfl) ?_
  refine lv_iconst (v := (nI 0)) hx hb dX0_format_31 (by decide) ?_
  refine va_put (D := (dC, dI)) (ci := 0) (v := .int (nI 0)) (ty := .boolean) (C := RX0) (T := TX0) (N := 12) hx hb hts hin tyX0 tyX0_ok nmX0 hown hK hP hD hS 0 rfl rfl 11 (by decide) (hts (.fieldLink RX0 44 "NestCells" "off" "Z") (by decide +kernel)) (fun _ h9 => h9) rfl (by decide +kernel) rfl rfl (Nat.le_of_ble_eq_true rfl) dX0_format_32 (fun H locs hP hD hS => ?_)
  have hP : va_P (dC, dI) vwCl (wX0 cA h0 q0 q1 q2 q3 q4 q5 (kx_fill w (nI 0) 98) (kx_fill ce (nI 0) 32) nm tl tc tw 0 0 0 (nI 0) (nI 0) (nI 0)) H := hP
  have hD : va_D A (wX0 cA h0 q0 q1 q2 q3 q4 q5 (kx_fill w (nI 0) 98) (kx_fill ce (nI 0) 32) nm tl tc tw 0 0 0 (nI 0) (nI 0) (nI 0)) := hD
  exact kMv_ret hx hb hr hlocks hP hK hD hS dX0_format_35 rfl
set_option maxHeartbeats 4000000 in
set_option maxRecDepth 100000 in
/-- NestCells.begin  -/
theorem c_X0_begin (l : Launch) (dC : Nat → ClassId) (dI : Nat → Nat → Nat) (cA : ClassId) (h0 q0 q1 q2 q3 q4 q5 : Nat) (w ce nm tl tc tw : Nat → Int32) (T n z : Nat) (wtc wia off : Int32)  (ho : off = 0) (hT : T < 8) (hn : n < 88) : kMi l yX0_begin wsX0_begin ({ frames := 1, cells := 0, slots := 0, locals := 21 }) dC dI [(cA, .int)] (wX0 cA h0 q0 q1 q2 q3 q4 q5 w ce nm tl tc tw T n z wtc wia off) [.ref h0] (nI (T + 1)) (wX0 cA h0 q0 q1 q2 q3 q4 q5 w ce (upd nm n (-1)) tl tc tw (T + 1) (n + 1) z wtc wia off) := by
  refine kMi_of (cc := cX0_begin) (maxL := 1) (ret := (some .int)) (by decide) rfl (Nat.le_of_ble_eq_true rfl) ?_
  intro p e s m below meth c A ls hx hb hml hr hts hown hlocks hA hP hK hD hS hl
  have hin : ∀ w ∈ u_ws RX0 TX0 12, w ∈ wsX0_begin := by decide +kernel
  have hl : lv_has ls 1 [(0, .ref h0)] := hl
  refine lv_aload_n hx hb dX0_begin_0 rfl (lv_at hl 0 rfl) ?_
  refine kv_Vv (Xr := []) (n := 0) (c_X0_needPower l dC dI cA h0 q0 q1 q2 q3 q4 q5 w ce nm tl tc tw T n z wtc wia off  ho) hx hb hml hown hts gX0_begin_X0_needPower rfl ⟨rfl, rfl⟩ (by decide +kernel) rfl ⟨Nat.le_of_ble_eq_true rfl, Nat.le_of_ble_eq_true rfl⟩ hK hP hD hS hA [0] [0, 1, 2, 3, 4, 5, 6] [] rfl rfl rfl (by decide) (by decide) (q0 := 0) rfl rfl rfl (by decide) hl.1 rfl (Nat.le_of_ble_eq_true rfl) dX0_begin_1 ⟨Nat.zero_le _, Nat.zero_le _⟩ (fun H locs hP hD hS => ?_)
  have hP : va_P (dC, dI) vwCl (wX0 cA h0 q0 q1 q2 q3 q4 q5 w ce nm tl tc tw T n z wtc wia off) H := hP
  have hD : va_D A (wX0 cA h0 q0 q1 q2 q3 q4 q5 w ce nm tl tc tw T n z wtc wia off) := hD
  refine lv_aload_n hx hb dX0_begin_4 rfl (lv_at hl 0 rfl) ?_
  refine va_get (D := (dC, dI)) (ci := 0) (v := .int (nI T)) (C := RX0) (T := TX0) (N := 12) hx hb hts hin hown hK hP 0 rfl rfl 6 (by decide) (hts (.fieldLink RX0 51 "NestCells" "transactions" "I") (by decide +kernel)) (fun _ h9 => h9) rfl dX0_begin_5 ?_
  refine lv_bipush (v := (nI 8)) hx hb dX0_begin_8 (by decide) ?_
  refine kv_ne (tgt := 23) hx hb (by omega) (by omega) dX0_begin_10 (by decide) (fun h10_0 => ?_) (fun h10_0 => absurd h10_0 (by omega))
  refine lv_aload_n hx hb dX0_begin_23 rfl (lv_at hl 0 rfl) ?_
  refine lv_iconst (v := (-1)) hx hb dX0_begin_24 (by decide) ?_
  refine kv_Vv (Xr := []) (n := 1) (c_X0_openLevel l dC dI cA h0 q0 q1 q2 q3 q4 q5 w ce nm tl tc tw T n z wtc wia off (-1) (by omega)) hx hb hml hown hts gX0_begin_X0_openLevel rfl ⟨rfl, rfl⟩ (by decide +kernel) rfl ⟨Nat.le_of_ble_eq_true rfl, Nat.le_of_ble_eq_true rfl⟩ hK hP hD hS hA [0] [0, 1, 2, 3, 4, 5, 6] [] rfl rfl rfl (by decide) (by decide) (q0 := 0) rfl rfl rfl (by decide) hl.1 rfl (Nat.le_of_ble_eq_true rfl) dX0_begin_25 ⟨Nat.zero_le _, Nat.zero_le _⟩ (fun H locs hP hD hS => ?_)
  have hP : va_P (dC, dI) vwCl (wX0 cA h0 q0 q1 q2 q3 q4 q5 w ce (upd nm n (-1)) tl tc tw T (n + 1) z wtc wia off) H := hP
  have hD : va_D A (wX0 cA h0 q0 q1 q2 q3 q4 q5 w ce (upd nm n (-1)) tl tc tw T (n + 1) z wtc wia off) := hD
  refine lv_aload_n hx hb dX0_begin_28 rfl (lv_at hl 0 rfl) ?_
  refine lv_dup hx hb dX0_begin_29 rfl ?_
  refine va_get (D := (dC, dI)) (ci := 0) (v := .int (nI T)) (C := RX0) (T := TX0) (N := 12) hx hb hts hin hown hK hP 0 rfl rfl 6 (by decide) (hts (.fieldLink RX0 51 "NestCells" "transactions" "I") (by decide +kernel)) (fun _ h9 => h9) rfl dX0_begin_30 ?_
  refine lv_iconst (v := (nI 1)) hx hb dX0_begin_33 (by decide) ?_
  refine kv_addE (d := T + 1) hx hb (by omega) dX0_begin_34 ?_
  refine va_put (D := (dC, dI)) (ci := 0) (v := .int (nI (T + 1))) (ty := .int) (C := RX0) (T := TX0) (N := 12) hx hb hts hin tyX0 tyX0_ok nmX0 hown hK hP hD hS 0 rfl rfl 6 (by decide) (hts (.fieldLink RX0 51 "NestCells" "transactions" "I") (by decide +kernel)) (fun _ h9 => h9) rfl (by decide +kernel) rfl rfl (Nat.le_of_ble_eq_true rfl) dX0_begin_35 (fun H locs hP hD hS => ?_)
  have hP : va_P (dC, dI) vwCl (wX0 cA h0 q0 q1 q2 q3 q4 q5 w ce (upd nm n (-1)) tl tc tw (T + 1) (n + 1) z wtc wia off) H := hP
  have hD : va_D A (wX0 cA h0 q0 q1 q2 q3 q4 q5 w ce (upd nm n (-1)) tl tc tw (T + 1) (n + 1) z wtc wia off) := hD
  refine lv_aload_n hx hb dX0_begin_38 rfl (lv_at hl 0 rfl) ?_
  refine va_get (D := (dC, dI)) (ci := 0) (v := .int (nI (T + 1))) (C := RX0) (T := TX0) (N := 12) hx hb hts hin hown hK hP 0 rfl rfl 6 (by decide) (hts (.fieldLink RX0 51 "NestCells" "transactions" "I") (by decide +kernel)) (fun _ h9 => h9) rfl dX0_begin_39 ?_
  exact kMi_ret hx hb hr hlocks hP hK hD hS dX0_begin_42 rfl rfl
set_option maxHeartbeats 4000000 in
set_option maxRecDepth 100000 in
/-- NestCells.write_t  -/
theorem c_X0_write_t (l : Launch) (dC : Nat → ClassId) (dI : Nat → Nat → Nat) (cA : ClassId) (h0 q0 q1 q2 q3 q4 q5 : Nat) (w ce nm tl tc tw : Nat → Int32) (T n z : Nat) (wtc wia off : Int32) (cell : Nat) (v : Int32) (hc : cell < 32) (ho : off = 0) (hT : 0 < T) (hT8 : T ≤ 8) (hz : z ≤ 60) (hn1 : 1 ≤ n) (hn : n ≤ 88) (hh : ¬ kx_holds (kx_tc tl tc (nI (n - 1)) z) (nI cell) = 0) : kMi l yX0_write wsX0_write ({ frames := 2, cells := 0, slots := 0, locals := 41 }) dC dI [(cA, .int)] (wX0 cA h0 q0 q1 q2 q3 q4 q5 w ce nm tl tc tw T n z wtc wia off) [.ref h0, .int (nI cell), .int v] (ce cell) (wX0 cA h0 q0 q1 q2 q3 q4 q5 w (upd ce cell v) nm tl tc tw T n z wtc wia off) := by
  refine kMi_of (cc := cX0_write) (maxL := 5) (ret := (some .int)) (by decide) rfl (Nat.le_of_ble_eq_true rfl) ?_
  intro p e s m below meth c A ls hx hb hml hr hts hown hlocks hA hP hK hD hS hl
  have hin : ∀ w ∈ u_ws RX0 TX0 12, w ∈ wsX0_write := by decide +kernel
  have hl : lv_has ls 5 [(0, .ref h0), (1, .int (nI cell)), (2, .int v)] := hl
  refine lv_aload_n hx hb dX0_write_0 rfl (lv_at hl 0 rfl) ?_
  refine lv_iload_n hx hb dX0_write_1 rfl (lv_at hl 1 rfl) ?_
  refine kv_Vv (Xr := []) (n := 1) (c_X0_needCell l dC dI cA h0 q0 q1 q2 q3 q4 q5 w ce nm tl tc tw T n z wtc wia off cell (by omega)) hx hb hml hown hts gX0_write_X0_needCell rfl ⟨rfl, rfl⟩ (by decide +kernel) rfl ⟨Nat.le_of_ble_eq_true rfl, Nat.le_of_ble_eq_true rfl⟩ hK hP hD hS hA [0] [0, 1, 2, 3, 4, 5, 6] [] rfl rfl rfl (by decide) (by decide) (q0 := 0) rfl rfl rfl (by decide) hl.1 rfl (Nat.le_of_ble_eq_true rfl) dX0_write_2 ⟨Nat.zero_le _, Nat.zero_le _⟩ (fun H locs hP hD hS => ?_)
  have hP : va_P (dC, dI) vwCl (wX0 cA h0 q0 q1 q2 q3 q4 q5 w ce nm tl tc tw T n z wtc wia off) H := hP
  have hD : va_D A (wX0 cA h0 q0 q1 q2 q3 q4 q5 w ce nm tl tc tw T n z wtc wia off) := hD
  refine lv_aload_n hx hb dX0_write_5 rfl (lv_at hl 0 rfl) ?_
  refine kv_Vv (Xr := []) (n := 0) (c_X0_needTransaction l dC dI cA h0 q0 q1 q2 q3 q4 q5 w ce nm tl tc tw T n z wtc wia off  ho hT hT8) hx hb hml hown hts gX0_write_X0_needTransaction rfl ⟨rfl, rfl⟩ (by decide +kernel) rfl ⟨Nat.le_of_ble_eq_true rfl, Nat.le_of_ble_eq_true rfl⟩ hK hP hD hS hA [0] [0, 1, 2, 3, 4, 5, 6] [] rfl rfl rfl (by decide) (by decide) (q0 := 0) rfl rfl rfl (by decide) hl.1 rfl (Nat.le_of_ble_eq_true rfl) dX0_write_6 ⟨Nat.zero_le _, Nat.zero_le _⟩ (fun H locs hP hD hS => ?_)
  have hP : va_P (dC, dI) vwCl (wX0 cA h0 q0 q1 q2 q3 q4 q5 w ce nm tl tc tw T n z wtc wia off) H := hP
  have hD : va_D A (wX0 cA h0 q0 q1 q2 q3 q4 q5 w ce nm tl tc tw T n z wtc wia off) := hD
  refine lv_aload_n hx hb dX0_write_9 rfl (lv_at hl 0 rfl) ?_
  refine va_get (D := (dC, dI)) (ci := 0) (v := .int (nI n)) (C := RX0) (T := TX0) (N := 12) hx hb hts hin hown hK hP 0 rfl rfl 7 (by decide) (hts (.fieldLink RX0 71 "NestCells" "levels" "I") (by decide +kernel)) (fun _ h9 => h9) rfl dX0_write_10 ?_
  refine lv_iconst (v := (nI 1)) hx hb dX0_write_13 (by decide) ?_
  refine kv_subE (d := n - 1) hx hb (by omega) dX0_write_14 ?_
  refine lv_istore_n (lv' := [(3, .int (nI (n - 1))), (0, .ref h0), (1, .int (nI cell)), (2, .int v)]) hx hb dX0_write_15 rfl hl (by decide) rfl (fun ls hl => ?_)
  refine lv_aload_n hx hb dX0_write_16 rfl (lv_at hl 1 rfl) ?_
  refine lv_iload_n hx hb dX0_write_17 rfl (lv_at hl 0 rfl) ?_
  refine kv_Vi (Xr := []) (n := 1) (c_X0_tracedCells l dC dI cA h0 q0 q1 q2 q3 q4 q5 w ce nm tl tc tw T n z wtc wia off (nI (n - 1)) (by omega)) hx hb hml hown hts gX0_write_X0_tracedCells rfl ⟨rfl, rfl⟩ (by decide +kernel) rfl ⟨Nat.le_of_ble_eq_true rfl, Nat.le_of_ble_eq_true rfl⟩ hK hP hD hS hA [0] [0, 1, 2, 3, 4, 5, 6] [] rfl rfl rfl (by decide) (by decide) (q0 := 0) rfl rfl rfl (by decide) hl.1 rfl (Nat.le_of_ble_eq_true rfl) dX0_write_18 ⟨Nat.zero_le _, Nat.zero_le _⟩ (fun H locs hP hD hS => ?_)
  have hP : va_P (dC, dI) vwCl (wX0 cA h0 q0 q1 q2 q3 q4 q5 w ce nm tl tc tw T n z wtc wia off) H := hP
  have hD : va_D A (wX0 cA h0 q0 q1 q2 q3 q4 q5 w ce nm tl tc tw T n z wtc wia off) := hD
  refine lv_iload_n hx hb dX0_write_21 rfl (lv_at hl 2 rfl) ?_
  refine kv_Si (Xr := wX0 cA h0 q0 q1 q2 q3 q4 q5 w ce nm tl tc tw T n z wtc wia off) (n := 2) (c_X0_holds l dC dI   (kx_tc tl tc (nI (n - 1)) z) (nI cell) ) hx hb hml hown hts gX0_write_X0_holds rfl ⟨rfl, rfl⟩ (by decide +kernel) rfl ⟨Nat.le_of_ble_eq_true rfl, Nat.le_of_ble_eq_true rfl⟩ hK hP hD hS hA [] [] [0, 1, 2, 3, 4, 5, 6] rfl rfl rfl (by decide) (by decide) rfl (by decide) hl.1 rfl (Nat.le_of_ble_eq_true rfl) dX0_write_22 ⟨Nat.zero_le _, Nat.zero_le _⟩ (fun H locs hP hD hS => ?_)
  have hP : va_P (dC, dI) vwCl (wX0 cA h0 q0 q1 q2 q3 q4 q5 w ce nm tl tc tw T n z wtc wia off) H := hP
  have hD : va_D A (wX0 cA h0 q0 q1 q2 q3 q4 q5 w ce nm tl tc tw T n z wtc wia off) := hD
  refine lv_if_ne (tgt := 53) hx hb dX0_write_25 (by decide) (fun h25_0 => ?_) (fun h25_0 => absurd h25_0 hh)
  refine lv_aload_n hx hb dX0_write_53 rfl (lv_at hl 1 rfl) ?_
  refine va_get (D := (dC, dI)) (ci := 0) (v := .ref q1) (C := RX0) (T := TX0) (N := 12) hx hb hts hin hown hK hP 0 rfl rfl 1 (by decide) (hts (.fieldLink RX0 13 "NestCells" "cells" "[I") (by decide +kernel)) (fun _ h9 => h9) rfl dX0_write_54 ?_
  refine lv_iload_n hx hb dX0_write_57 rfl (lv_at hl 2 rfl) ?_
  refine kv_iald hx hb hK hP 2 0 rfl rfl (by omega) (by omega) dX0_write_58 ?_
  refine lv_istore (lv' := [(4, .int (ce cell)), (3, .int (nI (n - 1))), (0, .ref h0), (1, .int (nI cell)), (2, .int v)]) hx hb dX0_write_59 hl (by decide) rfl (fun ls hl => ?_)
  refine lv_aload_n hx hb dX0_write_61 rfl (lv_at hl 2 rfl) ?_
  refine va_get (D := (dC, dI)) (ci := 0) (v := .ref q1) (C := RX0) (T := TX0) (N := 12) hx hb hts hin hown hK hP 0 rfl rfl 1 (by decide) (hts (.fieldLink RX0 13 "NestCells" "cells" "[I") (by decide +kernel)) (fun _ h9 => h9) rfl dX0_write_62 ?_
  refine lv_iload_n hx hb dX0_write_65 rfl (lv_at hl 3 rfl) ?_
  refine lv_iload_n hx hb dX0_write_66 rfl (lv_at hl 4 rfl) ?_
  refine kv_iast hx hb hK hP hD hS 2 0 rfl rfl (by omega) (by omega) dX0_write_67 (fun H locs hP hD hS => ?_)
  have hP : va_P (dC, dI) vwCl (wX0 cA h0 q0 q1 q2 q3 q4 q5 w (upd ce cell v) nm tl tc tw T n z wtc wia off) H := hP
  have hD : va_D A (wX0 cA h0 q0 q1 q2 q3 q4 q5 w (upd ce cell v) nm tl tc tw T n z wtc wia off) := hD
  refine lv_iload hx hb dX0_write_68 (lv_at hl 0 rfl) ?_
  exact kMi_ret hx hb hr hlocks hP hK hD hS dX0_write_70 rfl rfl
set_option maxHeartbeats 4000000 in
set_option maxRecDepth 100000 in
/-- NestCells.write_u  -/
theorem c_X0_write_u (l : Launch) (dC : Nat → ClassId) (dI : Nat → Nat → Nat) (cA : ClassId) (h0 q0 q1 q2 q3 q4 q5 : Nat) (w ce nm tl tc tw : Nat → Int32) (T n z : Nat) (wtc wia off : Int32) (cell : Nat) (v : Int32) (hc : cell < 32) (ho : off = 0) (hT : 0 < T) (hT8 : T ≤ 8) (hz : z ≤ 60) (hn1 : 1 ≤ n) (hn : n ≤ 88) (hh : kx_holds (kx_tc tl tc (nI (n - 1)) z) (nI cell) = 0) (hz2 : z < 60) : kMi l yX0_write wsX0_write ({ frames := 2, cells := 0, slots := 0, locals := 41 }) dC dI [(cA, .int)] (wX0 cA h0 q0 q1 q2 q3 q4 q5 w ce nm tl tc tw T n z wtc wia off) [.ref h0, .int (nI cell), .int v] (ce cell) (wX0 cA h0 q0 q1 q2 q3 q4 q5 w (upd ce cell v) nm (upd tl z (nI (n - 1))) (upd tc z (nI cell)) (upd tw z (ce cell)) T n (z + 1) wtc wia off) := by
  refine kMi_of (cc := cX0_write) (maxL := 5) (ret := (some .int)) (by decide) rfl (Nat.le_of_ble_eq_true rfl) ?_
  intro p e s m below meth c A ls hx hb hml hr hts hown hlocks hA hP hK hD hS hl
  have hin : ∀ w ∈ u_ws RX0 TX0 12, w ∈ wsX0_write := by decide +kernel
  have hl : lv_has ls 5 [(0, .ref h0), (1, .int (nI cell)), (2, .int v)] := hl
  refine lv_aload_n hx hb dX0_write_0 rfl (lv_at hl 0 rfl) ?_
  refine lv_iload_n hx hb dX0_write_1 rfl (lv_at hl 1 rfl) ?_
  refine kv_Vv (Xr := []) (n := 1) (c_X0_needCell l dC dI cA h0 q0 q1 q2 q3 q4 q5 w ce nm tl tc tw T n z wtc wia off cell (by omega)) hx hb hml hown hts gX0_write_X0_needCell rfl ⟨rfl, rfl⟩ (by decide +kernel) rfl ⟨Nat.le_of_ble_eq_true rfl, Nat.le_of_ble_eq_true rfl⟩ hK hP hD hS hA [0] [0, 1, 2, 3, 4, 5, 6] [] rfl rfl rfl (by decide) (by decide) (q0 := 0) rfl rfl rfl (by decide) hl.1 rfl (Nat.le_of_ble_eq_true rfl) dX0_write_2 ⟨Nat.zero_le _, Nat.zero_le _⟩ (fun H locs hP hD hS => ?_)
  have hP : va_P (dC, dI) vwCl (wX0 cA h0 q0 q1 q2 q3 q4 q5 w ce nm tl tc tw T n z wtc wia off) H := hP
  have hD : va_D A (wX0 cA h0 q0 q1 q2 q3 q4 q5 w ce nm tl tc tw T n z wtc wia off) := hD
  refine lv_aload_n hx hb dX0_write_5 rfl (lv_at hl 0 rfl) ?_
  refine kv_Vv (Xr := []) (n := 0) (c_X0_needTransaction l dC dI cA h0 q0 q1 q2 q3 q4 q5 w ce nm tl tc tw T n z wtc wia off  ho hT hT8) hx hb hml hown hts gX0_write_X0_needTransaction rfl ⟨rfl, rfl⟩ (by decide +kernel) rfl ⟨Nat.le_of_ble_eq_true rfl, Nat.le_of_ble_eq_true rfl⟩ hK hP hD hS hA [0] [0, 1, 2, 3, 4, 5, 6] [] rfl rfl rfl (by decide) (by decide) (q0 := 0) rfl rfl rfl (by decide) hl.1 rfl (Nat.le_of_ble_eq_true rfl) dX0_write_6 ⟨Nat.zero_le _, Nat.zero_le _⟩ (fun H locs hP hD hS => ?_)
  have hP : va_P (dC, dI) vwCl (wX0 cA h0 q0 q1 q2 q3 q4 q5 w ce nm tl tc tw T n z wtc wia off) H := hP
  have hD : va_D A (wX0 cA h0 q0 q1 q2 q3 q4 q5 w ce nm tl tc tw T n z wtc wia off) := hD
  refine lv_aload_n hx hb dX0_write_9 rfl (lv_at hl 0 rfl) ?_
  refine va_get (D := (dC, dI)) (ci := 0) (v := .int (nI n)) (C := RX0) (T := TX0) (N := 12) hx hb hts hin hown hK hP 0 rfl rfl 7 (by decide) (hts (.fieldLink RX0 71 "NestCells" "levels" "I") (by decide +kernel)) (fun _ h9 => h9) rfl dX0_write_10 ?_
  refine lv_iconst (v := (nI 1)) hx hb dX0_write_13 (by decide) ?_
  refine kv_subE (d := n - 1) hx hb (by omega) dX0_write_14 ?_
  refine lv_istore_n (lv' := [(3, .int (nI (n - 1))), (0, .ref h0), (1, .int (nI cell)), (2, .int v)]) hx hb dX0_write_15 rfl hl (by decide) rfl (fun ls hl => ?_)
  refine lv_aload_n hx hb dX0_write_16 rfl (lv_at hl 1 rfl) ?_
  refine lv_iload_n hx hb dX0_write_17 rfl (lv_at hl 0 rfl) ?_
  refine kv_Vi (Xr := []) (n := 1) (c_X0_tracedCells l dC dI cA h0 q0 q1 q2 q3 q4 q5 w ce nm tl tc tw T n z wtc wia off (nI (n - 1)) (by omega)) hx hb hml hown hts gX0_write_X0_tracedCells rfl ⟨rfl, rfl⟩ (by decide +kernel) rfl ⟨Nat.le_of_ble_eq_true rfl, Nat.le_of_ble_eq_true rfl⟩ hK hP hD hS hA [0] [0, 1, 2, 3, 4, 5, 6] [] rfl rfl rfl (by decide) (by decide) (q0 := 0) rfl rfl rfl (by decide) hl.1 rfl (Nat.le_of_ble_eq_true rfl) dX0_write_18 ⟨Nat.zero_le _, Nat.zero_le _⟩ (fun H locs hP hD hS => ?_)
  have hP : va_P (dC, dI) vwCl (wX0 cA h0 q0 q1 q2 q3 q4 q5 w ce nm tl tc tw T n z wtc wia off) H := hP
  have hD : va_D A (wX0 cA h0 q0 q1 q2 q3 q4 q5 w ce nm tl tc tw T n z wtc wia off) := hD
  refine lv_iload_n hx hb dX0_write_21 rfl (lv_at hl 2 rfl) ?_
  refine kv_Si (Xr := wX0 cA h0 q0 q1 q2 q3 q4 q5 w ce nm tl tc tw T n z wtc wia off) (n := 2) (c_X0_holds l dC dI   (kx_tc tl tc (nI (n - 1)) z) (nI cell) ) hx hb hml hown hts gX0_write_X0_holds rfl ⟨rfl, rfl⟩ (by decide +kernel) rfl ⟨Nat.le_of_ble_eq_true rfl, Nat.le_of_ble_eq_true rfl⟩ hK hP hD hS hA [] [] [0, 1, 2, 3, 4, 5, 6] rfl rfl rfl (by decide) (by decide) rfl (by decide) hl.1 rfl (Nat.le_of_ble_eq_true rfl) dX0_write_22 ⟨Nat.zero_le _, Nat.zero_le _⟩ (fun H locs hP hD hS => ?_)
  have hP : va_P (dC, dI) vwCl (wX0 cA h0 q0 q1 q2 q3 q4 q5 w ce nm tl tc tw T n z wtc wia off) H := hP
  have hD : va_D A (wX0 cA h0 q0 q1 q2 q3 q4 q5 w ce nm tl tc tw T n z wtc wia off) := hD
  refine lv_if_ne (tgt := 53) hx hb dX0_write_25 (by decide) (fun h25_0 => absurd h25_0 (fun q => q hh)) (fun h25_0 => ?_)
  refine lv_aload_n hx hb dX0_write_28 rfl (lv_at hl 1 rfl) ?_
  refine va_get (D := (dC, dI)) (ci := 0) (v := .int (nI z)) (C := RX0) (T := TX0) (N := 12) hx hb hts hin hown hK hP 0 rfl rfl 8 (by decide) (hts (.fieldLink RX0 82 "NestCells" "traces" "I") (by decide +kernel)) (fun _ h9 => h9) rfl dX0_write_29 ?_
  refine lv_bipush (v := (nI 60)) hx hb dX0_write_32 (by decide) ?_
  refine kv_ne (tgt := 47) hx hb (by omega) (by omega) dX0_write_34 (by decide) (fun h34_0 => ?_) (fun h34_0 => absurd h34_0 (by omega))
  refine lv_aload_n hx hb dX0_write_47 rfl (lv_at hl 1 rfl) ?_
  refine lv_iload_n hx hb dX0_write_48 rfl (lv_at hl 0 rfl) ?_
  refine lv_iload_n hx hb dX0_write_49 rfl (lv_at hl 2 rfl) ?_
  refine kv_Vv (Xr := []) (n := 2) (c_X0_leaveTrace l dC dI cA h0 q0 q1 q2 q3 q4 q5 w ce nm tl tc tw T n z wtc wia off (n - 1) cell (by omega) (by omega)) hx hb hml hown hts gX0_write_X0_leaveTrace rfl ⟨rfl, rfl⟩ (by decide +kernel) rfl ⟨Nat.le_of_ble_eq_true rfl, Nat.le_of_ble_eq_true rfl⟩ hK hP hD hS hA [0] [0, 1, 2, 3, 4, 5, 6] [] rfl rfl rfl (by decide) (by decide) (q0 := 0) rfl rfl rfl (by decide) hl.1 rfl (Nat.le_of_ble_eq_true rfl) dX0_write_50 ⟨Nat.zero_le _, Nat.zero_le _⟩ (fun H locs hP hD hS => ?_)
  have hP : va_P (dC, dI) vwCl (wX0 cA h0 q0 q1 q2 q3 q4 q5 w ce nm (upd tl z (nI (n - 1))) (upd tc z (nI cell)) (upd tw z (ce cell)) T n (z + 1) wtc wia off) H := hP
  have hD : va_D A (wX0 cA h0 q0 q1 q2 q3 q4 q5 w ce nm (upd tl z (nI (n - 1))) (upd tc z (nI cell)) (upd tw z (ce cell)) T n (z + 1) wtc wia off) := hD
  refine lv_aload_n hx hb dX0_write_53 rfl (lv_at hl 1 rfl) ?_
  refine va_get (D := (dC, dI)) (ci := 0) (v := .ref q1) (C := RX0) (T := TX0) (N := 12) hx hb hts hin hown hK hP 0 rfl rfl 1 (by decide) (hts (.fieldLink RX0 13 "NestCells" "cells" "[I") (by decide +kernel)) (fun _ h9 => h9) rfl dX0_write_54 ?_
  refine lv_iload_n hx hb dX0_write_57 rfl (lv_at hl 2 rfl) ?_
  refine kv_iald hx hb hK hP 2 0 rfl rfl (by omega) (by omega) dX0_write_58 ?_
  refine lv_istore (lv' := [(4, .int (ce cell)), (3, .int (nI (n - 1))), (0, .ref h0), (1, .int (nI cell)), (2, .int v)]) hx hb dX0_write_59 hl (by decide) rfl (fun ls hl => ?_)
  refine lv_aload_n hx hb dX0_write_61 rfl (lv_at hl 2 rfl) ?_
  refine va_get (D := (dC, dI)) (ci := 0) (v := .ref q1) (C := RX0) (T := TX0) (N := 12) hx hb hts hin hown hK hP 0 rfl rfl 1 (by decide) (hts (.fieldLink RX0 13 "NestCells" "cells" "[I") (by decide +kernel)) (fun _ h9 => h9) rfl dX0_write_62 ?_
  refine lv_iload_n hx hb dX0_write_65 rfl (lv_at hl 3 rfl) ?_
  refine lv_iload_n hx hb dX0_write_66 rfl (lv_at hl 4 rfl) ?_
  refine kv_iast hx hb hK hP hD hS 2 0 rfl rfl (by omega) (by omega) dX0_write_67 (fun H locs hP hD hS => ?_)
  have hP : va_P (dC, dI) vwCl (wX0 cA h0 q0 q1 q2 q3 q4 q5 w (upd ce cell v) nm (upd tl z (nI (n - 1))) (upd tc z (nI cell)) (upd tw z (ce cell)) T n (z + 1) wtc wia off) H := hP
  have hD : va_D A (wX0 cA h0 q0 q1 q2 q3 q4 q5 w (upd ce cell v) nm (upd tl z (nI (n - 1))) (upd tc z (nI cell)) (upd tw z (ce cell)) T n (z + 1) wtc wia off) := hD
  refine lv_iload hx hb dX0_write_68 (lv_at hl 0 rfl) ?_
  exact kMi_ret hx hb hr hlocks hP hK hD hS dX0_write_70 rfl rfl
set_option maxHeartbeats 4000000 in
set_option maxRecDepth 100000 in
/-- NestCells.read  -/
theorem c_X0_read (l : Launch) (dC : Nat → ClassId) (dI : Nat → Nat → Nat) (cA : ClassId) (h0 q0 q1 q2 q3 q4 q5 : Nat) (w ce nm tl tc tw : Nat → Int32) (T n z : Nat) (wtc wia off : Int32) (cell : Nat) (hc : cell < 32) (ho : off = 0) : kMi l yX0_read wsX0_read ({ frames := 2, cells := 0, slots := 0, locals := 41 }) dC dI [(cA, .int)] (wX0 cA h0 q0 q1 q2 q3 q4 q5 w ce nm tl tc tw T n z wtc wia off) [.ref h0, .int (nI cell)] (ce cell) (wX0 cA h0 q0 q1 q2 q3 q4 q5 w ce nm tl tc tw T n z wtc wia off) := by
  refine kMi_of (cc := cX0_read) (maxL := 2) (ret := (some .int)) (by decide) rfl (Nat.le_of_ble_eq_true rfl) ?_
  intro p e s m below meth c A ls hx hb hml hr hts hown hlocks hA hP hK hD hS hl
  have hin : ∀ w ∈ u_ws RX0 TX0 12, w ∈ wsX0_read := by decide +kernel
  have hl : lv_has ls 2 [(0, .ref h0), (1, .int (nI cell))] := hl
  refine lv_aload_n hx hb dX0_read_0 rfl (lv_at hl 0 rfl) ?_
  refine lv_iload_n hx hb dX0_read_1 rfl (lv_at hl 1 rfl) ?_
  refine kv_Vv (Xr := []) (n := 1) (c_X0_needCell l dC dI cA h0 q0 q1 q2 q3 q4 q5 w ce nm tl tc tw T n z wtc wia off cell (by omega)) hx hb hml hown hts gX0_read_X0_needCell rfl ⟨rfl, rfl⟩ (by decide +kernel) rfl ⟨Nat.le_of_ble_eq_true rfl, Nat.le_of_ble_eq_true rfl⟩ hK hP hD hS hA [0] [0, 1, 2, 3, 4, 5, 6] [] rfl rfl rfl (by decide) (by decide) (q0 := 0) rfl rfl rfl (by decide) hl.1 rfl (Nat.le_of_ble_eq_true rfl) dX0_read_2 ⟨Nat.zero_le _, Nat.zero_le _⟩ (fun H locs hP hD hS => ?_)
  have hP : va_P (dC, dI) vwCl (wX0 cA h0 q0 q1 q2 q3 q4 q5 w ce nm tl tc tw T n z wtc wia off) H := hP
  have hD : va_D A (wX0 cA h0 q0 q1 q2 q3 q4 q5 w ce nm tl tc tw T n z wtc wia off) := hD
  refine lv_aload_n hx hb dX0_read_5 rfl (lv_at hl 0 rfl) ?_
  refine kv_Vv (Xr := []) (n := 0) (c_X0_needPower l dC dI cA h0 q0 q1 q2 q3 q4 q5 w ce nm tl tc tw T n z wtc wia off  ho) hx hb hml hown hts gX0_read_X0_needPower rfl ⟨rfl, rfl⟩ (by decide +kernel) rfl ⟨Nat.le_of_ble_eq_true rfl, Nat.le_of_ble_eq_true rfl⟩ hK hP hD hS hA [0] [0, 1, 2, 3, 4, 5, 6] [] rfl rfl rfl (by decide) (by decide) (q0 := 0) rfl rfl rfl (by decide) hl.1 rfl (Nat.le_of_ble_eq_true rfl) dX0_read_6 ⟨Nat.zero_le _, Nat.zero_le _⟩ (fun H locs hP hD hS => ?_)
  have hP : va_P (dC, dI) vwCl (wX0 cA h0 q0 q1 q2 q3 q4 q5 w ce nm tl tc tw T n z wtc wia off) H := hP
  have hD : va_D A (wX0 cA h0 q0 q1 q2 q3 q4 q5 w ce nm tl tc tw T n z wtc wia off) := hD
  refine lv_aload_n hx hb dX0_read_9 rfl (lv_at hl 0 rfl) ?_
  refine va_get (D := (dC, dI)) (ci := 0) (v := .ref q1) (C := RX0) (T := TX0) (N := 12) hx hb hts hin hown hK hP 0 rfl rfl 1 (by decide) (hts (.fieldLink RX0 13 "NestCells" "cells" "[I") (by decide +kernel)) (fun _ h9 => h9) rfl dX0_read_10 ?_
  refine lv_iload_n hx hb dX0_read_13 rfl (lv_at hl 1 rfl) ?_
  refine kv_iald hx hb hK hP 2 0 rfl rfl (by omega) (by omega) dX0_read_14 ?_
  exact kMi_ret hx hb hr hlocks hP hK hD hS dX0_read_15 rfl rfl
set_option maxHeartbeats 4000000 in
set_option maxRecDepth 100000 in
/-- NestCells.commit_i  -/
theorem c_X0_commit_i (l : Launch) (dC : Nat → ClassId) (dI : Nat → Nat → Nat) (cA : ClassId) (h0 q0 q1 q2 q3 q4 q5 : Nat) (w ce nm tl tc tw : Nat → Int32) (T n z : Nat) (wtc wia off : Int32)  (ho : off = 0) (hT8 : T ≤ 8) (hz : z ≤ 60) (hn : n ≤ 88) (hj : 1 ≤ kx_inn nm n) (hT : 2 ≤ T) (hj2 : 2 ≤ kx_inn nm n) : kMi l yX0_commit wsX0_commit ({ frames := 2, cells := 0, slots := 0, locals := 47 }) dC dI [(cA, .int)] (wX0 cA h0 q0 q1 q2 q3 q4 q5 w ce nm tl tc tw T n z wtc wia off) [.ref h0] (nI (T - 1)) (wX0 cA h0 q0 q1 q2 q3 q4 q5 w ce ((kx_fd (kx_cm (kx_inn nm n) n (nm, tl, tc, tw, n, z)) (kx_inn nm n - 1)).1) ((kx_fd (kx_cm (kx_inn nm n) n (nm, tl, tc, tw, n, z)) (kx_inn nm n - 1)).2.1) ((kx_fd (kx_cm (kx_inn nm n) n (nm, tl, tc, tw, n, z)) (kx_inn nm n - 1)).2.2.1) ((kx_fd (kx_cm (kx_inn nm n) n (nm, tl, tc, tw, n, z)) (kx_inn nm n - 1)).2.2.2.1) (T - 1) ((kx_fd (kx_cm (kx_inn nm n) n (nm, tl, tc, tw, n, z)) (kx_inn nm n - 1)).2.2.2.2.1) ((kx_fd (kx_cm (kx_inn nm n) n (nm, tl, tc, tw, n, z)) (kx_inn nm n - 1)).2.2.2.2.2) wtc wia off) := by
  refine kMi_of (cc := cX0_commit) (maxL := 3) (ret := (some .int)) (by decide) rfl (Nat.le_of_ble_eq_true rfl) ?_
  intro p e s m below meth c A ls hx hb hml hr hts hown hlocks hA hP hK hD hS hl
  have hin : ∀ w ∈ u_ws RX0 TX0 12, w ∈ wsX0_commit := by decide +kernel
  have hl : lv_has ls 3 [(0, .ref h0)] := hl
  have hjn := kx_inn_le nm n
  refine lv_aload_n hx hb dX0_commit_0 rfl (lv_at hl 0 rfl) ?_
  refine kv_Vv (Xr := []) (n := 0) (c_X0_needTransaction l dC dI cA h0 q0 q1 q2 q3 q4 q5 w ce nm tl tc tw T n z wtc wia off  ho (by omega) hT8) hx hb hml hown hts gX0_commit_X0_needTransaction rfl ⟨rfl, rfl⟩ (by decide +kernel) rfl ⟨Nat.le_of_ble_eq_true rfl, Nat.le_of_ble_eq_true rfl⟩ hK hP hD hS hA [0] [0, 1, 2, 3, 4, 5, 6] [] rfl rfl rfl (by decide) (by decide) (q0 := 0) rfl rfl rfl (by decide) hl.1 rfl (Nat.le_of_ble_eq_true rfl) dX0_commit_1 ⟨Nat.zero_le _, Nat.zero_le _⟩ (fun H locs hP hD hS => ?_)
  have hP : va_P (dC, dI) vwCl (wX0 cA h0 q0 q1 q2 q3 q4 q5 w ce nm tl tc tw T n z wtc wia off) H := hP
  have hD : va_D A (wX0 cA h0 q0 q1 q2 q3 q4 q5 w ce nm tl tc tw T n z wtc wia off) := hD
  refine lv_aload_n hx hb dX0_commit_4 rfl (lv_at hl 0 rfl) ?_
  refine kv_Vi (Xr := []) (n := 0) (c_X0_innermostLevel l dC dI cA h0 q0 q1 q2 q3 q4 q5 w ce nm tl tc tw T n z wtc wia off  (by omega)) hx hb hml hown hts gX0_commit_X0_innermostLevel rfl ⟨rfl, rfl⟩ (by decide +kernel) rfl ⟨Nat.le_of_ble_eq_true rfl, Nat.le_of_ble_eq_true rfl⟩ hK hP hD hS hA [0] [0, 1, 2, 3, 4, 5, 6] [] rfl rfl rfl (by decide) (by decide) (q0 := 0) rfl rfl rfl (by decide) hl.1 rfl (Nat.le_of_ble_eq_true rfl) dX0_commit_5 ⟨Nat.zero_le _, Nat.zero_le _⟩ (fun H locs hP hD hS => ?_)
  have hP : va_P (dC, dI) vwCl (wX0 cA h0 q0 q1 q2 q3 q4 q5 w ce nm tl tc tw T n z wtc wia off) H := hP
  have hD : va_D A (wX0 cA h0 q0 q1 q2 q3 q4 q5 w ce nm tl tc tw T n z wtc wia off) := hD
  refine lv_istore_n (lv' := [(1, .int (nI (kx_inn nm n) - nI 1)), (0, .ref h0)]) hx hb dX0_commit_8 rfl hl (by decide) rfl (fun ls hl => ?_)
  refine lv_aload_n hx hb dX0_commit_9 rfl (lv_at hl 1 rfl) ?_
  refine va_get (D := (dC, dI)) (ci := 0) (v := .int (nI n)) (C := RX0) (T := TX0) (N := 12) hx hb hts hin hown hK hP 0 rfl rfl 7 (by decide) (hts (.fieldLink RX0 71 "NestCells" "levels" "I") (by decide +kernel)) (fun _ h9 => h9) rfl dX0_commit_10 ?_
  refine lv_iconst (v := (nI 1)) hx hb dX0_commit_13 (by decide) ?_
  refine kv_subE (d := n - 1) hx hb (by omega) dX0_commit_14 ?_
  refine lv_istore_n (lv' := [(2, .int (nI (n - 1))), (1, .int (nI (kx_inn nm n) - nI 1)), (0, .ref h0)]) hx hb dX0_commit_15 rfl hl (by decide) rfl (fun ls hl => ?_)
  have hl : lv_has ls 3 [(2, .int (nI (n - 1))), (1, .int (nI (kx_inn nm n - 1))), (0, .ref h0)] := by rw [← pk_sub hj]; exact hl
  have hP : va_P (dC, dI) vwCl (wX0 cA h0 q0 q1 q2 q3 q4 q5 w ce ((nm, tl, tc, tw, n, z).1) ((nm, tl, tc, tw, n, z).2.1) ((nm, tl, tc, tw, n, z).2.2.1) ((nm, tl, tc, tw, n, z).2.2.2.1) T ((nm, tl, tc, tw, n, z).2.2.2.2.1) ((nm, tl, tc, tw, n, z).2.2.2.2.2) wtc wia off) H := by exact hP
  have hD : va_D A (wX0 cA h0 q0 q1 q2 q3 q4 q5 w ce ((nm, tl, tc, tw, n, z).1) ((nm, tl, tc, tw, n, z).2.1) ((nm, tl, tc, tw, n, z).2.2.1) ((nm, tl, tc, tw, n, z).2.2.2.1) T ((nm, tl, tc, tw, n, z).2.2.2.2.1) ((nm, tl, tc, tw, n, z).2.2.2.2.2) wtc wia off) := by exact hD
  have lp : ∀ (k : Nat) (i : Nat) (S : kx_F), ∀ (_ : i + 1 = kx_inn nm n + k), ∀ (_ : i < n), ∀ (_ : S.2.2.2.2.1 = i + 1), ∀ (_ : S.2.2.2.2.2 ≤ 60), ∀ (_ : kx_cm (kx_inn nm n) (i + 1) S = kx_cm (kx_inn nm n) n (nm, tl, tc, tw, n, z)), ∀ (H : Heap) (locs : List Loc) (ls : Array Slot), va_P (dC, dI) vwCl (wX0 cA h0 q0 q1 q2 q3 q4 q5 w ce S.1 S.2.1 S.2.2.1 S.2.2.2.1 T S.2.2.2.2.1 S.2.2.2.2.2 wtc wia off) H → va_D A (wX0 cA h0 q0 q1 q2 q3 q4 q5 w ce S.1 S.2.1 S.2.2.1 S.2.2.2.1 T S.2.2.2.2.1 S.2.2.2.2.2 wtc wia off) → va_S A s.heap H locs → lv_has ls 3 [(0, .ref h0), (1, .int (nI (kx_inn nm n - 1))), (2, .int (nI i))] → W p l e (headSpec wsX0_commit ({ frames := 2, cells := 0, slots := 0, locals := 47 })).room s m ([.ref h0] : List Value).toArray below meth c H locs 0 0 (MQ below (va_Qi (fun (r' : Int32) (_ : Unit) => r' = (nI (T - 1))) (kB dC dI [(cA, .int)] (wX0 cA h0 q0 q1 q2 q3 q4 q5 w ce ((kx_fd (kx_cm (kx_inn nm n) n (nm, tl, tc, tw, n, z)) (kx_inn nm n - 1)).1) ((kx_fd (kx_cm (kx_inn nm n) n (nm, tl, tc, tw, n, z)) (kx_inn nm n - 1)).2.1) ((kx_fd (kx_cm (kx_inn nm n) n (nm, tl, tc, tw, n, z)) (kx_inn nm n - 1)).2.2.1) ((kx_fd (kx_cm (kx_inn nm n) n (nm, tl, tc, tw, n, z)) (kx_inn nm n - 1)).2.2.2.1) (T - 1) ((kx_fd (kx_cm (kx_inn nm n) n (nm, tl, tc, tw, n, z)) (kx_inn nm n - 1)).2.2.2.2.1) ((kx_fd (kx_cm (kx_inn nm n) n (nm, tl, tc, tw, n, z)) (kx_inn nm n - 1)).2.2.2.2.2) wtc wia off) A) A) ([.ref h0] : List Value).toArray s 0 0 A) (F0 m 16 ls []) := by
    intro k
    induction k with
    | zero =>
      intro i S hi hin2 hnS hzS he H locs ls hP hD hS hl
      have hS0 : S = kx_cm (kx_inn nm n) n (nm, tl, tc, tw, n, z) := by rw [← he, kx_cm, if_pos (by omega)]
      refine lv_iload_n hx hb dX0_commit_16 rfl (lv_at hl 2 rfl) ?_
      refine lv_iload_n hx hb dX0_commit_17 rfl (lv_at hl 1 rfl) ?_
      refine kv_le (tgt := 32) hx hb (by omega) (by omega) dX0_commit_18 (by decide) (fun h18_0 => ?_) (fun h18_0 => absurd h18_0 (by omega))
      refine lv_aload_n hx hb dX0_commit_32 rfl (lv_at hl 0 rfl) ?_
      refine va_get (D := (dC, dI)) (ci := 0) (v := .int (nI T)) (C := RX0) (T := TX0) (N := 12) hx hb hts hin hown hK hP 0 rfl rfl 6 (by decide) (hts (.fieldLink RX0 51 "NestCells" "transactions" "I") (by decide +kernel)) (fun _ h9 => h9) rfl dX0_commit_33 ?_
      refine lv_iconst (v := (nI 1)) hx hb dX0_commit_36 (by decide) ?_
      refine kv_le (tgt := 60) hx hb (by omega) (by omega) dX0_commit_37 (by decide) (fun h37_0 => absurd h37_0 (by omega)) (fun h37_0 => ?_)
      refine lv_aload_n hx hb dX0_commit_40 rfl (lv_at hl 0 rfl) ?_
      refine lv_iload_n hx hb dX0_commit_41 rfl (lv_at hl 1 rfl) ?_
      refine kv_Vv (Xr := []) (n := 1) (c_X0_foldLevel l dC dI cA h0 q0 q1 q2 q3 q4 q5 w ce S.1 S.2.1 S.2.2.1 S.2.2.2.1 T S.2.2.2.2.1 S.2.2.2.2.2 wtc wia off (kx_inn nm n - 1) (by omega) (by omega) (by omega) (by omega)) hx hb hml hown hts gX0_commit_X0_foldLevel rfl ⟨rfl, rfl⟩ (by decide +kernel) rfl ⟨Nat.le_of_ble_eq_true rfl, Nat.le_of_ble_eq_true rfl⟩ hK hP hD hS hA [0] [0, 1, 2, 3, 4, 5, 6] [] rfl rfl rfl (by decide) (by decide) (q0 := 0) rfl rfl rfl (by decide) hl.1 rfl (Nat.le_of_ble_eq_true rfl) dX0_commit_42 ⟨Nat.zero_le _, Nat.zero_le _⟩ (fun H locs hP hD hS => ?_)
      have hP : va_P (dC, dI) vwCl (wX0 cA h0 q0 q1 q2 q3 q4 q5 w ce (kx_sh S.1 (kx_inn nm n - 1) S.2.2.2.2.1) ((kx_fo (kx_tc S.2.1 S.2.2.1 (nI ((kx_inn nm n - 1) - 1)) S.2.2.2.2.2) (nI (kx_inn nm n - 1)) S.2.1 S.2.2.1 S.2.2.2.1 S.2.2.2.2.2).2.1) ((kx_fo (kx_tc S.2.1 S.2.2.1 (nI ((kx_inn nm n - 1) - 1)) S.2.2.2.2.2) (nI (kx_inn nm n - 1)) S.2.1 S.2.2.1 S.2.2.2.1 S.2.2.2.2.2).2.2.1) ((kx_fo (kx_tc S.2.1 S.2.2.1 (nI ((kx_inn nm n - 1) - 1)) S.2.2.2.2.2) (nI (kx_inn nm n - 1)) S.2.1 S.2.2.1 S.2.2.2.1 S.2.2.2.2.2).2.2.2) T (S.2.2.2.2.1 - 1) ((kx_fo (kx_tc S.2.1 S.2.2.1 (nI ((kx_inn nm n - 1) - 1)) S.2.2.2.2.2) (nI (kx_inn nm n - 1)) S.2.1 S.2.2.1 S.2.2.2.1 S.2.2.2.2.2).1) wtc wia off) H := hP
      have hD : va_D A (wX0 cA h0 q0 q1 q2 q3 q4 q5 w ce (kx_sh S.1 (kx_inn nm n - 1) S.2.2.2.2.1) ((kx_fo (kx_tc S.2.1 S.2.2.1 (nI ((kx_inn nm n - 1) - 1)) S.2.2.2.2.2) (nI (kx_inn nm n - 1)) S.2.1 S.2.2.1 S.2.2.2.1 S.2.2.2.2.2).2.1) ((kx_fo (kx_tc S.2.1 S.2.2.1 (nI ((kx_inn nm n - 1) - 1)) S.2.2.2.2.2) (nI (kx_inn nm n - 1)) S.2.1 S.2.2.1 S.2.2.2.1 S.2.2.2.2.2).2.2.1) ((kx_fo (kx_tc S.2.1 S.2.2.1 (nI ((kx_inn nm n - 1) - 1)) S.2.2.2.2.2) (nI (kx_inn nm n - 1)) S.2.1 S.2.2.1 S.2.2.2.1 S.2.2.2.2.2).2.2.2) T (S.2.2.2.2.1 - 1) ((kx_fo (kx_tc S.2.1 S.2.2.1 (nI ((kx_inn nm n - 1) - 1)) S.2.2.2.2.2) (nI (kx_inn nm n - 1)) S.2.1 S.2.2.1 S.2.2.2.1 S.2.2.2.2.2).1) wtc wia off) := hD
      have hP : va_P (dC, dI) vwCl (wX0 cA h0 q0 q1 q2 q3 q4 q5 w ce ((kx_fd S (kx_inn nm n - 1)).1) ((kx_fd S (kx_inn nm n - 1)).2.1) ((kx_fd S (kx_inn nm n - 1)).2.2.1) ((kx_fd S (kx_inn nm n - 1)).2.2.2.1) T ((kx_fd S (kx_inn nm n - 1)).2.2.2.2.1) ((kx_fd S (kx_inn nm n - 1)).2.2.2.2.2) wtc wia off) H := by exact hP
      have hD : va_D A (wX0 cA h0 q0 q1 q2 q3 q4 q5 w ce ((kx_fd S (kx_inn nm n - 1)).1) ((kx_fd S (kx_inn nm n - 1)).2.1) ((kx_fd S (kx_inn nm n - 1)).2.2.1) ((kx_fd S (kx_inn nm n - 1)).2.2.2.1) T ((kx_fd S (kx_inn nm n - 1)).2.2.2.2.1) ((kx_fd S (kx_inn nm n - 1)).2.2.2.2.2) wtc wia off) := by exact hD
      refine lv_aload_n hx hb dX0_commit_45 rfl (lv_at hl 0 rfl) ?_
      refine lv_dup hx hb dX0_commit_46 rfl ?_
      refine va_get (D := (dC, dI)) (ci := 0) (v := .int (nI T)) (C := RX0) (T := TX0) (N := 12) hx hb hts hin hown hK hP 0 rfl rfl 6 (by decide) (hts (.fieldLink RX0 51 "NestCells" "transactions" "I") (by decide +kernel)) (fun _ h9 => h9) rfl dX0_commit_47 ?_
      refine lv_iconst (v := (nI 1)) hx hb dX0_commit_50 (by decide) ?_
      refine kv_subE (d := T - 1) hx hb (by omega) dX0_commit_51 ?_
      refine va_put (D := (dC, dI)) (ci := 0) (v := .int (nI (T - 1))) (ty := .int) (C := RX0) (T := TX0) (N := 12) hx hb hts hin tyX0 tyX0_ok nmX0 hown hK hP hD hS 0 rfl rfl 6 (by decide) (hts (.fieldLink RX0 51 "NestCells" "transactions" "I") (by decide +kernel)) (fun _ h9 => h9) rfl (by decide +kernel) rfl rfl (Nat.le_of_ble_eq_true rfl) dX0_commit_52 (fun H locs hP hD hS => ?_)
      have hP : va_P (dC, dI) vwCl (wX0 cA h0 q0 q1 q2 q3 q4 q5 w ce ((kx_fd S (kx_inn nm n - 1)).1) ((kx_fd S (kx_inn nm n - 1)).2.1) ((kx_fd S (kx_inn nm n - 1)).2.2.1) ((kx_fd S (kx_inn nm n - 1)).2.2.2.1) (T - 1) ((kx_fd S (kx_inn nm n - 1)).2.2.2.2.1) ((kx_fd S (kx_inn nm n - 1)).2.2.2.2.2) wtc wia off) H := hP
      have hD : va_D A (wX0 cA h0 q0 q1 q2 q3 q4 q5 w ce ((kx_fd S (kx_inn nm n - 1)).1) ((kx_fd S (kx_inn nm n - 1)).2.1) ((kx_fd S (kx_inn nm n - 1)).2.2.1) ((kx_fd S (kx_inn nm n - 1)).2.2.2.1) (T - 1) ((kx_fd S (kx_inn nm n - 1)).2.2.2.2.1) ((kx_fd S (kx_inn nm n - 1)).2.2.2.2.2) wtc wia off) := hD
      refine lv_aload_n hx hb dX0_commit_55 rfl (lv_at hl 0 rfl) ?_
      refine va_get (D := (dC, dI)) (ci := 0) (v := .int (nI (T - 1))) (C := RX0) (T := TX0) (N := 12) hx hb hts hin hown hK hP 0 rfl rfl 6 (by decide) (hts (.fieldLink RX0 51 "NestCells" "transactions" "I") (by decide +kernel)) (fun _ h9 => h9) rfl dX0_commit_56 ?_
      exact kMi_ret hx hb hr hlocks hP hK hD hS dX0_commit_59 rfl (by rw [hS0])
    | succ k ih =>
      intro i S hi hin2 hnS hzS he H locs ls hP hD hS hl
      refine lv_iload_n hx hb dX0_commit_16 rfl (lv_at hl 2 rfl) ?_
      refine lv_iload_n hx hb dX0_commit_17 rfl (lv_at hl 1 rfl) ?_
      refine kv_le (tgt := 32) hx hb (by omega) (by omega) dX0_commit_18 (by decide) (fun h18_0 => absurd h18_0 (by omega)) (fun h18_0 => ?_)
      refine lv_aload_n hx hb dX0_commit_21 rfl (lv_at hl 0 rfl) ?_
      refine lv_iload_n hx hb dX0_commit_22 rfl (lv_at hl 2 rfl) ?_
      refine kv_Vv (Xr := []) (n := 1) (c_X0_foldLevel l dC dI cA h0 q0 q1 q2 q3 q4 q5 w ce S.1 S.2.1 S.2.2.1 S.2.2.2.1 T S.2.2.2.2.1 S.2.2.2.2.2 wtc wia off i (by omega) (by omega) (by omega) (by omega)) hx hb hml hown hts gX0_commit_X0_foldLevel rfl ⟨rfl, rfl⟩ (by decide +kernel) rfl ⟨Nat.le_of_ble_eq_true rfl, Nat.le_of_ble_eq_true rfl⟩ hK hP hD hS hA [0] [0, 1, 2, 3, 4, 5, 6] [] rfl rfl rfl (by decide) (by decide) (q0 := 0) rfl rfl rfl (by decide) hl.1 rfl (Nat.le_of_ble_eq_true rfl) dX0_commit_23 ⟨Nat.zero_le _, Nat.zero_le _⟩ (fun H locs hP hD hS => ?_)
      have hP : va_P (dC, dI) vwCl (wX0 cA h0 q0 q1 q2 q3 q4 q5 w ce (kx_sh S.1 i S.2.2.2.2.1) ((kx_fo (kx_tc S.2.1 S.2.2.1 (nI (i - 1)) S.2.2.2.2.2) (nI i) S.2.1 S.2.2.1 S.2.2.2.1 S.2.2.2.2.2).2.1) ((kx_fo (kx_tc S.2.1 S.2.2.1 (nI (i - 1)) S.2.2.2.2.2) (nI i) S.2.1 S.2.2.1 S.2.2.2.1 S.2.2.2.2.2).2.2.1) ((kx_fo (kx_tc S.2.1 S.2.2.1 (nI (i - 1)) S.2.2.2.2.2) (nI i) S.2.1 S.2.2.1 S.2.2.2.1 S.2.2.2.2.2).2.2.2) T (S.2.2.2.2.1 - 1) ((kx_fo (kx_tc S.2.1 S.2.2.1 (nI (i - 1)) S.2.2.2.2.2) (nI i) S.2.1 S.2.2.1 S.2.2.2.1 S.2.2.2.2.2).1) wtc wia off) H := hP
      have hD : va_D A (wX0 cA h0 q0 q1 q2 q3 q4 q5 w ce (kx_sh S.1 i S.2.2.2.2.1) ((kx_fo (kx_tc S.2.1 S.2.2.1 (nI (i - 1)) S.2.2.2.2.2) (nI i) S.2.1 S.2.2.1 S.2.2.2.1 S.2.2.2.2.2).2.1) ((kx_fo (kx_tc S.2.1 S.2.2.1 (nI (i - 1)) S.2.2.2.2.2) (nI i) S.2.1 S.2.2.1 S.2.2.2.1 S.2.2.2.2.2).2.2.1) ((kx_fo (kx_tc S.2.1 S.2.2.1 (nI (i - 1)) S.2.2.2.2.2) (nI i) S.2.1 S.2.2.1 S.2.2.2.1 S.2.2.2.2.2).2.2.2) T (S.2.2.2.2.1 - 1) ((kx_fo (kx_tc S.2.1 S.2.2.1 (nI (i - 1)) S.2.2.2.2.2) (nI i) S.2.1 S.2.2.1 S.2.2.2.1 S.2.2.2.2.2).1) wtc wia off) := hD
      have hP : va_P (dC, dI) vwCl (wX0 cA h0 q0 q1 q2 q3 q4 q5 w ce ((kx_fd S i).1) ((kx_fd S i).2.1) ((kx_fd S i).2.2.1) ((kx_fd S i).2.2.2.1) T ((kx_fd S i).2.2.2.2.1) ((kx_fd S i).2.2.2.2.2) wtc wia off) H := by exact hP
      have hD : va_D A (wX0 cA h0 q0 q1 q2 q3 q4 q5 w ce ((kx_fd S i).1) ((kx_fd S i).2.1) ((kx_fd S i).2.2.1) ((kx_fd S i).2.2.2.1) T ((kx_fd S i).2.2.2.2.1) ((kx_fd S i).2.2.2.2.2) wtc wia off) := by exact hD
      refine lv_iinc (v := (nI (i - 1))) (lv' := [(2, .int (nI (i - 1))), (0, .ref h0), (1, .int (nI (kx_inn nm n - 1)))]) hx hb dX0_commit_26 hl (k := 2) rfl (kv_dec _ (by decide) (by omega)) (by decide) rfl (fun ls hl => ?_)
      refine lv_goto (tgt := 16) hx hb dX0_commit_29 (by decide) ?_
      exact ih (i - 1) (kx_fd S i) (by omega) (by omega) (by show S.2.2.2.2.1 - 1 = _; omega) (Nat.le_trans (kx_fd_z S i) hzS) (by rw [← he, show i - 1 + 1 = i by omega, kx_cm, if_neg (by omega)]) _ _ _ hP hD hS (lv_sub hl [1, 2, 0] rfl)
  exact lp (n - kx_inn nm n) (n - 1) (nm, tl, tc, tw, n, z) (by omega) (by omega) (by show n = _; omega) hz (by rw [show n - 1 + 1 = n by omega]) _ _ _ hP hD hS (lv_sub hl [2, 1, 0] rfl)
set_option maxHeartbeats 4000000 in
set_option maxRecDepth 100000 in
/-- NestCells.commit_o  -/
theorem c_X0_commit_o (l : Launch) (dC : Nat → ClassId) (dI : Nat → Nat → Nat) (cA : ClassId) (h0 q0 q1 q2 q3 q4 q5 : Nat) (w ce nm tl tc tw : Nat → Int32) (T n z : Nat) (wtc wia off : Int32)  (ho : off = 0) (hT8 : T ≤ 8) (hz : z ≤ 60) (hn : n ≤ 88) (hj : 1 ≤ kx_inn nm n) (hT : T = 1) : kMi l yX0_commit wsX0_commit ({ frames := 3, cells := 0, slots := 0, locals := 67 }) dC dI [(cA, .int)] (wX0 cA h0 q0 q1 q2 q3 q4 q5 w ce nm tl tc tw T n z wtc wia off) [.ref h0] (if (kx_kd (kx_tc (kx_cm (kx_inn nm n) n (nm, tl, tc, tw, n, z)).2.1 (kx_cm (kx_inn nm n) n (nm, tl, tc, tw, n, z)).2.2.1 (nI 0) (kx_cm (kx_inn nm n) n (nm, tl, tc, tw, n, z)).2.2.2.2.2) ce (w, wtc, wia, off)).2.2.2 = 0 then nI 0 else (-1)) (wX0 cA h0 q0 q1 q2 q3 q4 q5 (((kx_kd (kx_tc (kx_cm (kx_inn nm n) n (nm, tl, tc, tw, n, z)).2.1 (kx_cm (kx_inn nm n) n (nm, tl, tc, tw, n, z)).2.2.1 (nI 0) (kx_cm (kx_inn nm n) n (nm, tl, tc, tw, n, z)).2.2.2.2.2) ce (w, wtc, wia, off))).1) ce ((kx_cm (kx_inn nm n) n (nm, tl, tc, tw, n, z)).1) ((kx_cm (kx_inn nm n) n (nm, tl, tc, tw, n, z)).2.1) ((kx_cm (kx_inn nm n) n (nm, tl, tc, tw, n, z)).2.2.1) ((kx_cm (kx_inn nm n) n (nm, tl, tc, tw, n, z)).2.2.2.1) 0 0 0 (((kx_kd (kx_tc (kx_cm (kx_inn nm n) n (nm, tl, tc, tw, n, z)).2.1 (kx_cm (kx_inn nm n) n (nm, tl, tc, tw, n, z)).2.2.1 (nI 0) (kx_cm (kx_inn nm n) n (nm, tl, tc, tw, n, z)).2.2.2.2.2) ce (w, wtc, wia, off))).2.1) (((kx_kd (kx_tc (kx_cm (kx_inn nm n) n (nm, tl, tc, tw, n, z)).2.1 (kx_cm (kx_inn nm n) n (nm, tl, tc, tw, n, z)).2.2.1 (nI 0) (kx_cm (kx_inn nm n) n (nm, tl, tc, tw, n, z)).2.2.2.2.2) ce (w, wtc, wia, off))).2.2.1) (((kx_kd (kx_tc (kx_cm (kx_inn nm n) n (nm, tl, tc, tw, n, z)).2.1 (kx_cm (kx_inn nm n) n (nm, tl, tc, tw, n, z)).2.2.1 (nI 0) (kx_cm (kx_inn nm n) n (nm, tl, tc, tw, n, z)).2.2.2.2.2) ce (w, wtc, wia, off))).2.2.2)) := by
  refine kMi_of (cc := cX0_commit) (maxL := 3) (ret := (some .int)) (by decide) rfl (Nat.le_of_ble_eq_true rfl) ?_
  intro p e s m below meth c A ls hx hb hml hr hts hown hlocks hA hP hK hD hS hl
  have hin : ∀ w ∈ u_ws RX0 TX0 12, w ∈ wsX0_commit := by decide +kernel
  have hl : lv_has ls 3 [(0, .ref h0)] := hl
  have hjn := kx_inn_le nm n
  refine lv_aload_n hx hb dX0_commit_0 rfl (lv_at hl 0 rfl) ?_
  refine kv_Vv (Xr := []) (n := 0) (c_X0_needTransaction l dC dI cA h0 q0 q1 q2 q3 q4 q5 w ce nm tl tc tw T n z wtc wia off  ho (by omega) hT8) hx hb hml hown hts gX0_commit_X0_needTransaction rfl ⟨rfl, rfl⟩ (by decide +kernel) rfl ⟨Nat.le_of_ble_eq_true rfl, Nat.le_of_ble_eq_true rfl⟩ hK hP hD hS hA [0] [0, 1, 2, 3, 4, 5, 6] [] rfl rfl rfl (by decide) (by decide) (q0 := 0) rfl rfl rfl (by decide) hl.1 rfl (Nat.le_of_ble_eq_true rfl) dX0_commit_1 ⟨Nat.zero_le _, Nat.zero_le _⟩ (fun H locs hP hD hS => ?_)
  have hP : va_P (dC, dI) vwCl (wX0 cA h0 q0 q1 q2 q3 q4 q5 w ce nm tl tc tw T n z wtc wia off) H := hP
  have hD : va_D A (wX0 cA h0 q0 q1 q2 q3 q4 q5 w ce nm tl tc tw T n z wtc wia off) := hD
  refine lv_aload_n hx hb dX0_commit_4 rfl (lv_at hl 0 rfl) ?_
  refine kv_Vi (Xr := []) (n := 0) (c_X0_innermostLevel l dC dI cA h0 q0 q1 q2 q3 q4 q5 w ce nm tl tc tw T n z wtc wia off  (by omega)) hx hb hml hown hts gX0_commit_X0_innermostLevel rfl ⟨rfl, rfl⟩ (by decide +kernel) rfl ⟨Nat.le_of_ble_eq_true rfl, Nat.le_of_ble_eq_true rfl⟩ hK hP hD hS hA [0] [0, 1, 2, 3, 4, 5, 6] [] rfl rfl rfl (by decide) (by decide) (q0 := 0) rfl rfl rfl (by decide) hl.1 rfl (Nat.le_of_ble_eq_true rfl) dX0_commit_5 ⟨Nat.zero_le _, Nat.zero_le _⟩ (fun H locs hP hD hS => ?_)
  have hP : va_P (dC, dI) vwCl (wX0 cA h0 q0 q1 q2 q3 q4 q5 w ce nm tl tc tw T n z wtc wia off) H := hP
  have hD : va_D A (wX0 cA h0 q0 q1 q2 q3 q4 q5 w ce nm tl tc tw T n z wtc wia off) := hD
  refine lv_istore_n (lv' := [(1, .int (nI (kx_inn nm n) - nI 1)), (0, .ref h0)]) hx hb dX0_commit_8 rfl hl (by decide) rfl (fun ls hl => ?_)
  refine lv_aload_n hx hb dX0_commit_9 rfl (lv_at hl 1 rfl) ?_
  refine va_get (D := (dC, dI)) (ci := 0) (v := .int (nI n)) (C := RX0) (T := TX0) (N := 12) hx hb hts hin hown hK hP 0 rfl rfl 7 (by decide) (hts (.fieldLink RX0 71 "NestCells" "levels" "I") (by decide +kernel)) (fun _ h9 => h9) rfl dX0_commit_10 ?_
  refine lv_iconst (v := (nI 1)) hx hb dX0_commit_13 (by decide) ?_
  refine kv_subE (d := n - 1) hx hb (by omega) dX0_commit_14 ?_
  refine lv_istore_n (lv' := [(2, .int (nI (n - 1))), (1, .int (nI (kx_inn nm n) - nI 1)), (0, .ref h0)]) hx hb dX0_commit_15 rfl hl (by decide) rfl (fun ls hl => ?_)
  have hl : lv_has ls 3 [(2, .int (nI (n - 1))), (1, .int (nI (kx_inn nm n - 1))), (0, .ref h0)] := by rw [← pk_sub hj]; exact hl
  have hP : va_P (dC, dI) vwCl (wX0 cA h0 q0 q1 q2 q3 q4 q5 w ce ((nm, tl, tc, tw, n, z).1) ((nm, tl, tc, tw, n, z).2.1) ((nm, tl, tc, tw, n, z).2.2.1) ((nm, tl, tc, tw, n, z).2.2.2.1) T ((nm, tl, tc, tw, n, z).2.2.2.2.1) ((nm, tl, tc, tw, n, z).2.2.2.2.2) wtc wia off) H := by exact hP
  have hD : va_D A (wX0 cA h0 q0 q1 q2 q3 q4 q5 w ce ((nm, tl, tc, tw, n, z).1) ((nm, tl, tc, tw, n, z).2.1) ((nm, tl, tc, tw, n, z).2.2.1) ((nm, tl, tc, tw, n, z).2.2.2.1) T ((nm, tl, tc, tw, n, z).2.2.2.2.1) ((nm, tl, tc, tw, n, z).2.2.2.2.2) wtc wia off) := by exact hD
  have lp : ∀ (k : Nat) (i : Nat) (S : kx_F), ∀ (_ : i + 1 = kx_inn nm n + k), ∀ (_ : i < n), ∀ (_ : S.2.2.2.2.1 = i + 1), ∀ (_ : S.2.2.2.2.2 ≤ 60), ∀ (_ : kx_cm (kx_inn nm n) (i + 1) S = kx_cm (kx_inn nm n) n (nm, tl, tc, tw, n, z)), ∀ (H : Heap) (locs : List Loc) (ls : Array Slot), va_P (dC, dI) vwCl (wX0 cA h0 q0 q1 q2 q3 q4 q5 w ce S.1 S.2.1 S.2.2.1 S.2.2.2.1 T S.2.2.2.2.1 S.2.2.2.2.2 wtc wia off) H → va_D A (wX0 cA h0 q0 q1 q2 q3 q4 q5 w ce S.1 S.2.1 S.2.2.1 S.2.2.2.1 T S.2.2.2.2.1 S.2.2.2.2.2 wtc wia off) → va_S A s.heap H locs → lv_has ls 3 [(0, .ref h0), (1, .int (nI (kx_inn nm n - 1))), (2, .int (nI i))] → W p l e (headSpec wsX0_commit ({ frames := 3, cells := 0, slots := 0, locals := 67 })).room s m ([.ref h0] : List Value).toArray below meth c H locs 0 0 (MQ below (va_Qi (fun (r' : Int32) (_ : Unit) => r' = (if (kx_kd (kx_tc (kx_cm (kx_inn nm n) n (nm, tl, tc, tw, n, z)).2.1 (kx_cm (kx_inn nm n) n (nm, tl, tc, tw, n, z)).2.2.1 (nI 0) (kx_cm (kx_inn nm n) n (nm, tl, tc, tw, n, z)).2.2.2.2.2) ce (w, wtc, wia, off)).2.2.2 = 0 then nI 0 else (-1))) (kB dC dI [(cA, .int)] (wX0 cA h0 q0 q1 q2 q3 q4 q5 (((kx_kd (kx_tc (kx_cm (kx_inn nm n) n (nm, tl, tc, tw, n, z)).2.1 (kx_cm (kx_inn nm n) n (nm, tl, tc, tw, n, z)).2.2.1 (nI 0) (kx_cm (kx_inn nm n) n (nm, tl, tc, tw, n, z)).2.2.2.2.2) ce (w, wtc, wia, off))).1) ce ((kx_cm (kx_inn nm n) n (nm, tl, tc, tw, n, z)).1) ((kx_cm (kx_inn nm n) n (nm, tl, tc, tw, n, z)).2.1) ((kx_cm (kx_inn nm n) n (nm, tl, tc, tw, n, z)).2.2.1) ((kx_cm (kx_inn nm n) n (nm, tl, tc, tw, n, z)).2.2.2.1) 0 0 0 (((kx_kd (kx_tc (kx_cm (kx_inn nm n) n (nm, tl, tc, tw, n, z)).2.1 (kx_cm (kx_inn nm n) n (nm, tl, tc, tw, n, z)).2.2.1 (nI 0) (kx_cm (kx_inn nm n) n (nm, tl, tc, tw, n, z)).2.2.2.2.2) ce (w, wtc, wia, off))).2.1) (((kx_kd (kx_tc (kx_cm (kx_inn nm n) n (nm, tl, tc, tw, n, z)).2.1 (kx_cm (kx_inn nm n) n (nm, tl, tc, tw, n, z)).2.2.1 (nI 0) (kx_cm (kx_inn nm n) n (nm, tl, tc, tw, n, z)).2.2.2.2.2) ce (w, wtc, wia, off))).2.2.1) (((kx_kd (kx_tc (kx_cm (kx_inn nm n) n (nm, tl, tc, tw, n, z)).2.1 (kx_cm (kx_inn nm n) n (nm, tl, tc, tw, n, z)).2.2.1 (nI 0) (kx_cm (kx_inn nm n) n (nm, tl, tc, tw, n, z)).2.2.2.2.2) ce (w, wtc, wia, off))).2.2.2)) A) A) ([.ref h0] : List Value).toArray s 0 0 A) (F0 m 16 ls []) := by
    intro k
    induction k with
    | zero =>
      intro i S hi hin2 hnS hzS he H locs ls hP hD hS hl
      have hS0 : S = kx_cm (kx_inn nm n) n (nm, tl, tc, tw, n, z) := by rw [← he, kx_cm, if_pos (by omega)]
      refine lv_iload_n hx hb dX0_commit_16 rfl (lv_at hl 2 rfl) ?_
      refine lv_iload_n hx hb dX0_commit_17 rfl (lv_at hl 1 rfl) ?_
      refine kv_le (tgt := 32) hx hb (by omega) (by omega) dX0_commit_18 (by decide) (fun h18_0 => ?_) (fun h18_0 => absurd h18_0 (by omega))
      refine lv_aload_n hx hb dX0_commit_32 rfl (lv_at hl 0 rfl) ?_
      refine va_get (D := (dC, dI)) (ci := 0) (v := .int (nI T)) (C := RX0) (T := TX0) (N := 12) hx hb hts hin hown hK hP 0 rfl rfl 6 (by decide) (hts (.fieldLink RX0 51 "NestCells" "transactions" "I") (by decide +kernel)) (fun _ h9 => h9) rfl dX0_commit_33 ?_
      refine lv_iconst (v := (nI 1)) hx hb dX0_commit_36 (by decide) ?_
      refine kv_le (tgt := 60) hx hb (by omega) (by omega) dX0_commit_37 (by decide) (fun h37_0 => ?_) (fun h37_0 => absurd h37_0 (by omega))
      refine lv_aload_n hx hb dX0_commit_60 rfl (lv_at hl 0 rfl) ?_
      refine kv_Vv (Xr := []) (n := 0) (c_X0_keepOnDisk l dC dI cA h0 q0 q1 q2 q3 q4 q5 w ce S.1 S.2.1 S.2.2.1 S.2.2.2.1 T S.2.2.2.2.1 S.2.2.2.2.2 wtc wia off  (by omega)) hx hb hml hown hts gX0_commit_X0_keepOnDisk rfl ⟨rfl, rfl⟩ (by decide +kernel) rfl ⟨Nat.le_of_ble_eq_true rfl, Nat.le_of_ble_eq_true rfl⟩ hK hP hD hS hA [0] [0, 1, 2, 3, 4, 5, 6] [] rfl rfl rfl (by decide) (by decide) (q0 := 0) rfl rfl rfl (by decide) hl.1 rfl (Nat.le_of_ble_eq_true rfl) dX0_commit_61 ⟨Nat.zero_le _, Nat.zero_le _⟩ (fun H locs hP hD hS => ?_)
      have hP : va_P (dC, dI) vwCl (wX0 cA h0 q0 q1 q2 q3 q4 q5 ((kx_kd (kx_tc S.2.1 S.2.2.1 (nI 0) S.2.2.2.2.2) ce (w, wtc, wia, off)).1) ce S.1 S.2.1 S.2.2.1 S.2.2.2.1 T S.2.2.2.2.1 S.2.2.2.2.2 ((kx_kd (kx_tc S.2.1 S.2.2.1 (nI 0) S.2.2.2.2.2) ce (w, wtc, wia, off)).2.1) ((kx_kd (kx_tc S.2.1 S.2.2.1 (nI 0) S.2.2.2.2.2) ce (w, wtc, wia, off)).2.2.1) ((kx_kd (kx_tc S.2.1 S.2.2.1 (nI 0) S.2.2.2.2.2) ce (w, wtc, wia, off)).2.2.2)) H := hP
      have hD : va_D A (wX0 cA h0 q0 q1 q2 q3 q4 q5 ((kx_kd (kx_tc S.2.1 S.2.2.1 (nI 0) S.2.2.2.2.2) ce (w, wtc, wia, off)).1) ce S.1 S.2.1 S.2.2.1 S.2.2.2.1 T S.2.2.2.2.1 S.2.2.2.2.2 ((kx_kd (kx_tc S.2.1 S.2.2.1 (nI 0) S.2.2.2.2.2) ce (w, wtc, wia, off)).2.1) ((kx_kd (kx_tc S.2.1 S.2.2.1 (nI 0) S.2.2.2.2.2) ce (w, wtc, wia, off)).2.2.1) ((kx_kd (kx_tc S.2.1 S.2.2.1 (nI 0) S.2.2.2.2.2) ce (w, wtc, wia, off)).2.2.2)) := hD
      have hP : va_P (dC, dI) vwCl (wX0 cA h0 q0 q1 q2 q3 q4 q5 (((kx_kd (kx_tc S.2.1 S.2.2.1 (nI 0) S.2.2.2.2.2) ce (w, wtc, wia, off))).1) ce S.1 S.2.1 S.2.2.1 S.2.2.2.1 T S.2.2.2.2.1 S.2.2.2.2.2 (((kx_kd (kx_tc S.2.1 S.2.2.1 (nI 0) S.2.2.2.2.2) ce (w, wtc, wia, off))).2.1) (((kx_kd (kx_tc S.2.1 S.2.2.1 (nI 0) S.2.2.2.2.2) ce (w, wtc, wia, off))).2.2.1) (((kx_kd (kx_tc S.2.1 S.2.2.1 (nI 0) S.2.2.2.2.2) ce (w, wtc, wia, off))).2.2.2)) H := by exact hP
      have hD : va_D A (wX0 cA h0 q0 q1 q2 q3 q4 q5 (((kx_kd (kx_tc S.2.1 S.2.2.1 (nI 0) S.2.2.2.2.2) ce (w, wtc, wia, off))).1) ce S.1 S.2.1 S.2.2.1 S.2.2.2.1 T S.2.2.2.2.1 S.2.2.2.2.2 (((kx_kd (kx_tc S.2.1 S.2.2.1 (nI 0) S.2.2.2.2.2) ce (w, wtc, wia, off))).2.1) (((kx_kd (kx_tc S.2.1 S.2.2.1 (nI 0) S.2.2.2.2.2) ce (w, wtc, wia, off))).2.2.1) (((kx_kd (kx_tc S.2.1 S.2.2.1 (nI 0) S.2.2.2.2.2) ce (w, wtc, wia, off))).2.2.2)) := by exact hD
      refine lv_aload_n hx hb dX0_commit_64 rfl (lv_at hl 0 rfl) ?_
      refine kv_Vv (Xr := []) (n := 0) (c_X0_forgetTransactions l dC dI cA h0 q0 q1 q2 q3 q4 q5 (((kx_kd (kx_tc S.2.1 S.2.2.1 (nI 0) S.2.2.2.2.2) ce (w, wtc, wia, off))).1) ce S.1 S.2.1 S.2.2.1 S.2.2.2.1 T S.2.2.2.2.1 S.2.2.2.2.2 (((kx_kd (kx_tc S.2.1 S.2.2.1 (nI 0) S.2.2.2.2.2) ce (w, wtc, wia, off))).2.1) (((kx_kd (kx_tc S.2.1 S.2.2.1 (nI 0) S.2.2.2.2.2) ce (w, wtc, wia, off))).2.2.1) (((kx_kd (kx_tc S.2.1 S.2.2.1 (nI 0) S.2.2.2.2.2) ce (w, wtc, wia, off))).2.2.2)  ) hx hb hml hown hts gX0_commit_X0_forgetTransactions rfl ⟨rfl, rfl⟩ (by decide +kernel) rfl ⟨Nat.le_of_ble_eq_true rfl, Nat.le_of_ble_eq_true rfl⟩ hK hP hD hS hA [0] [0, 1, 2, 3, 4, 5, 6] [] rfl rfl rfl (by decide) (by decide) (q0 := 0) rfl rfl rfl (by decide) hl.1 rfl (Nat.le_of_ble_eq_true rfl) dX0_commit_65 ⟨Nat.zero_le _, Nat.zero_le _⟩ (fun H locs hP hD hS => ?_)
      have hP : va_P (dC, dI) vwCl (wX0 cA h0 q0 q1 q2 q3 q4 q5 (((kx_kd (kx_tc S.2.1 S.2.2.1 (nI 0) S.2.2.2.2.2) ce (w, wtc, wia, off))).1) ce S.1 S.2.1 S.2.2.1 S.2.2.2.1 0 0 0 (((kx_kd (kx_tc S.2.1 S.2.2.1 (nI 0) S.2.2.2.2.2) ce (w, wtc, wia, off))).2.1) (((kx_kd (kx_tc S.2.1 S.2.2.1 (nI 0) S.2.2.2.2.2) ce (w, wtc, wia, off))).2.2.1) (((kx_kd (kx_tc S.2.1 S.2.2.1 (nI 0) S.2.2.2.2.2) ce (w, wtc, wia, off))).2.2.2)) H := hP
      have hD : va_D A (wX0 cA h0 q0 q1 q2 q3 q4 q5 (((kx_kd (kx_tc S.2.1 S.2.2.1 (nI 0) S.2.2.2.2.2) ce (w, wtc, wia, off))).1) ce S.1 S.2.1 S.2.2.1 S.2.2.2.1 0 0 0 (((kx_kd (kx_tc S.2.1 S.2.2.1 (nI 0) S.2.2.2.2.2) ce (w, wtc, wia, off))).2.1) (((kx_kd (kx_tc S.2.1 S.2.2.1 (nI 0) S.2.2.2.2.2) ce (w, wtc, wia, off))).2.2.1) (((kx_kd (kx_tc S.2.1 S.2.2.1 (nI 0) S.2.2.2.2.2) ce (w, wtc, wia, off))).2.2.2)) := hD
      refine lv_aload_n hx hb dX0_commit_68 rfl (lv_at hl 0 rfl) ?_
      refine va_get (D := (dC, dI)) (ci := 0) (v := .int (((kx_kd (kx_tc S.2.1 S.2.2.1 (nI 0) S.2.2.2.2.2) ce (w, wtc, wia, off))).2.2.2)) (C := RX0) (T := TX0) (N := 12) hx hb hts hin hown hK hP 0 rfl rfl 11 (by decide) (hts (.fieldLink RX0 44 "NestCells" "off" "Z") (by decide +kernel)) (fun _ h9 => h9) rfl dX0_commit_69 ?_
      refine lv_if_eq (tgt := 79) hx hb dX0_commit_72 (by decide) (fun h72_0 => ?_) (fun h72_0 => ?_)
      · skip
        refine lv_iconst (v := (nI 0)) hx hb dX0_commit_79 (by decide) ?_
        exact kMi_ret hx hb hr hlocks hP hK hD hS dX0_commit_80 (by rw [← hS0, if_pos h72_0]) (by rw [← hS0])
      · skip
        refine lv_iconst (v := (-1)) hx hb dX0_commit_75 (by decide) ?_
        refine lv_goto (tgt := 80) hx hb dX0_commit_76 (by decide) ?_
        exact kMi_ret hx hb hr hlocks hP hK hD hS dX0_commit_80 (by rw [← hS0, if_neg h72_0]) (by rw [← hS0])
    | succ k ih =>
      intro i S hi hin2 hnS hzS he H locs ls hP hD hS hl
      refine lv_iload_n hx hb dX0_commit_16 rfl (lv_at hl 2 rfl) ?_
      refine lv_iload_n hx hb dX0_commit_17 rfl (lv_at hl 1 rfl) ?_
      refine kv_le (tgt := 32) hx hb (by omega) (by omega) dX0_commit_18 (by decide) (fun h18_0 => absurd h18_0 (by omega)) (fun h18_0 => ?_)
      refine lv_aload_n hx hb dX0_commit_21 rfl (lv_at hl 0 rfl) ?_
      refine lv_iload_n hx hb dX0_commit_22 rfl (lv_at hl 2 rfl) ?_
      refine kv_Vv (Xr := []) (n := 1) (c_X0_foldLevel l dC dI cA h0 q0 q1 q2 q3 q4 q5 w ce S.1 S.2.1 S.2.2.1 S.2.2.2.1 T S.2.2.2.2.1 S.2.2.2.2.2 wtc wia off i (by omega) (by omega) (by omega) (by omega)) hx hb hml hown hts gX0_commit_X0_foldLevel rfl ⟨rfl, rfl⟩ (by decide +kernel) rfl ⟨Nat.le_of_ble_eq_true rfl, Nat.le_of_ble_eq_true rfl⟩ hK hP hD hS hA [0] [0, 1, 2, 3, 4, 5, 6] [] rfl rfl rfl (by decide) (by decide) (q0 := 0) rfl rfl rfl (by decide) hl.1 rfl (Nat.le_of_ble_eq_true rfl) dX0_commit_23 ⟨Nat.zero_le _, Nat.zero_le _⟩ (fun H locs hP hD hS => ?_)
      have hP : va_P (dC, dI) vwCl (wX0 cA h0 q0 q1 q2 q3 q4 q5 w ce (kx_sh S.1 i S.2.2.2.2.1) ((kx_fo (kx_tc S.2.1 S.2.2.1 (nI (i - 1)) S.2.2.2.2.2) (nI i) S.2.1 S.2.2.1 S.2.2.2.1 S.2.2.2.2.2).2.1) ((kx_fo (kx_tc S.2.1 S.2.2.1 (nI (i - 1)) S.2.2.2.2.2) (nI i) S.2.1 S.2.2.1 S.2.2.2.1 S.2.2.2.2.2).2.2.1) ((kx_fo (kx_tc S.2.1 S.2.2.1 (nI (i - 1)) S.2.2.2.2.2) (nI i) S.2.1 S.2.2.1 S.2.2.2.1 S.2.2.2.2.2).2.2.2) T (S.2.2.2.2.1 - 1) ((kx_fo (kx_tc S.2.1 S.2.2.1 (nI (i - 1)) S.2.2.2.2.2) (nI i) S.2.1 S.2.2.1 S.2.2.2.1 S.2.2.2.2.2).1) wtc wia off) H := hP
      have hD : va_D A (wX0 cA h0 q0 q1 q2 q3 q4 q5 w ce (kx_sh S.1 i S.2.2.2.2.1) ((kx_fo (kx_tc S.2.1 S.2.2.1 (nI (i - 1)) S.2.2.2.2.2) (nI i) S.2.1 S.2.2.1 S.2.2.2.1 S.2.2.2.2.2).2.1) ((kx_fo (kx_tc S.2.1 S.2.2.1 (nI (i - 1)) S.2.2.2.2.2) (nI i) S.2.1 S.2.2.1 S.2.2.2.1 S.2.2.2.2.2).2.2.1) ((kx_fo (kx_tc S.2.1 S.2.2.1 (nI (i - 1)) S.2.2.2.2.2) (nI i) S.2.1 S.2.2.1 S.2.2.2.1 S.2.2.2.2.2).2.2.2) T (S.2.2.2.2.1 - 1) ((kx_fo (kx_tc S.2.1 S.2.2.1 (nI (i - 1)) S.2.2.2.2.2) (nI i) S.2.1 S.2.2.1 S.2.2.2.1 S.2.2.2.2.2).1) wtc wia off) := hD
      have hP : va_P (dC, dI) vwCl (wX0 cA h0 q0 q1 q2 q3 q4 q5 w ce ((kx_fd S i).1) ((kx_fd S i).2.1) ((kx_fd S i).2.2.1) ((kx_fd S i).2.2.2.1) T ((kx_fd S i).2.2.2.2.1) ((kx_fd S i).2.2.2.2.2) wtc wia off) H := by exact hP
      have hD : va_D A (wX0 cA h0 q0 q1 q2 q3 q4 q5 w ce ((kx_fd S i).1) ((kx_fd S i).2.1) ((kx_fd S i).2.2.1) ((kx_fd S i).2.2.2.1) T ((kx_fd S i).2.2.2.2.1) ((kx_fd S i).2.2.2.2.2) wtc wia off) := by exact hD
      refine lv_iinc (v := (nI (i - 1))) (lv' := [(2, .int (nI (i - 1))), (0, .ref h0), (1, .int (nI (kx_inn nm n - 1)))]) hx hb dX0_commit_26 hl (k := 2) rfl (kv_dec _ (by decide) (by omega)) (by decide) rfl (fun ls hl => ?_)
      refine lv_goto (tgt := 16) hx hb dX0_commit_29 (by decide) ?_
      exact ih (i - 1) (kx_fd S i) (by omega) (by omega) (by show S.2.2.2.2.1 - 1 = _; omega) (Nat.le_trans (kx_fd_z S i) hzS) (by rw [← he, show i - 1 + 1 = i by omega, kx_cm, if_neg (by omega)]) _ _ _ hP hD hS (lv_sub hl [1, 2, 0] rfl)
  exact lp (n - kx_inn nm n) (n - 1) (nm, tl, tc, tw, n, z) (by omega) (by omega) (by show n = _; omega) hz (by rw [show n - 1 + 1 = n by omega]) _ _ _ hP hD hS (lv_sub hl [2, 1, 0] rfl)
set_option maxHeartbeats 4000000 in
set_option maxRecDepth 100000 in
/-- NestCells.abort  -/
theorem c_X0_abort (l : Launch) (dC : Nat → ClassId) (dI : Nat → Nat → Nat) (cA : ClassId) (h0 q0 q1 q2 q3 q4 q5 : Nat) (w ce nm tl tc tw : Nat → Int32) (T n z : Nat) (wtc wia off : Int32)  (ho : off = 0) (hT : 0 < T) (hT8 : T ≤ 8) (hz : z ≤ 60) (hn : n ≤ 88) (hj : 1 ≤ kx_inn nm n) (htc : ∀ t, t < z → ∃ i : Nat, i < 32 ∧ tc t = nI i) : kMi l yX0_abort wsX0_abort ({ frames := 2, cells := 0, slots := 0, locals := 40 }) dC dI [(cA, .int)] (wX0 cA h0 q0 q1 q2 q3 q4 q5 w ce nm tl tc tw T n z wtc wia off) [.ref h0] (nI ((kx_gb tl tc tw (nI (kx_inn nm n - 1)) z ce 0).2.2)) (wX0 cA h0 q0 q1 q2 q3 q4 q5 w ((kx_gb tl tc tw (nI (kx_inn nm n - 1)) z ce 0).2.1) nm tl tc tw (T - 1) (kx_inn nm n - 1) ((kx_gb tl tc tw (nI (kx_inn nm n - 1)) z ce 0).1) wtc wia off) := by
  refine kMi_of (cc := cX0_abort) (maxL := 2) (ret := (some .int)) (by decide) rfl (Nat.le_of_ble_eq_true rfl) ?_
  intro p e s m below meth c A ls hx hb hml hr hts hown hlocks hA hP hK hD hS hl
  have hin : ∀ w ∈ u_ws RX0 TX0 12, w ∈ wsX0_abort := by decide +kernel
  have hl : lv_has ls 2 [(0, .ref h0)] := hl
  refine lv_aload_n hx hb dX0_abort_0 rfl (lv_at hl 0 rfl) ?_
  refine kv_Vv (Xr := []) (n := 0) (c_X0_needTransaction l dC dI cA h0 q0 q1 q2 q3 q4 q5 w ce nm tl tc tw T n z wtc wia off  ho hT hT8) hx hb hml hown hts gX0_abort_X0_needTransaction rfl ⟨rfl, rfl⟩ (by decide +kernel) rfl ⟨Nat.le_of_ble_eq_true rfl, Nat.le_of_ble_eq_true rfl⟩ hK hP hD hS hA [0] [0, 1, 2, 3, 4, 5, 6] [] rfl rfl rfl (by decide) (by decide) (q0 := 0) rfl rfl rfl (by decide) hl.1 rfl (Nat.le_of_ble_eq_true rfl) dX0_abort_1 ⟨Nat.zero_le _, Nat.zero_le _⟩ (fun H locs hP hD hS => ?_)
  have hP : va_P (dC, dI) vwCl (wX0 cA h0 q0 q1 q2 q3 q4 q5 w ce nm tl tc tw T n z wtc wia off) H := hP
  have hD : va_D A (wX0 cA h0 q0 q1 q2 q3 q4 q5 w ce nm tl tc tw T n z wtc wia off) := hD
  refine lv_aload_n hx hb dX0_abort_4 rfl (lv_at hl 0 rfl) ?_
  refine lv_aload_n hx hb dX0_abort_5 rfl (lv_at hl 0 rfl) ?_
  refine kv_Vi (Xr := []) (n := 0) (c_X0_innermostLevel l dC dI cA h0 q0 q1 q2 q3 q4 q5 w ce nm tl tc tw T n z wtc wia off  (by omega)) hx hb hml hown hts gX0_abort_X0_innermostLevel rfl ⟨rfl, rfl⟩ (by decide +kernel) rfl ⟨Nat.le_of_ble_eq_true rfl, Nat.le_of_ble_eq_true rfl⟩ hK hP hD hS hA [0] [0, 1, 2, 3, 4, 5, 6] [] rfl rfl rfl (by decide) (by decide) (q0 := 0) rfl rfl rfl (by decide) hl.1 rfl (Nat.le_of_ble_eq_true rfl) dX0_abort_6 ⟨Nat.zero_le _, Nat.zero_le _⟩ (fun H locs hP hD hS => ?_)
  have hP : va_P (dC, dI) vwCl (wX0 cA h0 q0 q1 q2 q3 q4 q5 w ce nm tl tc tw T n z wtc wia off) H := hP
  have hD : va_D A (wX0 cA h0 q0 q1 q2 q3 q4 q5 w ce nm tl tc tw T n z wtc wia off) := hD
  refine kv_top (w := .int (nI (kx_inn nm n - 1))) (by rw [← pk_sub hj]) ?_
  refine kv_Vi (Xr := []) (n := 1) (c_X0_goBack l dC dI cA h0 q0 q1 q2 q3 q4 q5 w ce nm tl tc tw T n z wtc wia off (kx_inn nm n - 1) hz htc) hx hb hml hown hts gX0_abort_X0_goBack rfl ⟨rfl, rfl⟩ (by decide +kernel) rfl ⟨Nat.le_of_ble_eq_true rfl, Nat.le_of_ble_eq_true rfl⟩ hK hP hD hS hA [0] [0, 1, 2, 3, 4, 5, 6] [] rfl rfl rfl (by decide) (by decide) (q0 := 0) rfl rfl rfl (by decide) hl.1 rfl (Nat.le_of_ble_eq_true rfl) dX0_abort_9 ⟨Nat.zero_le _, Nat.zero_le _⟩ (fun H locs hP hD hS => ?_)
  have hP : va_P (dC, dI) vwCl (wX0 cA h0 q0 q1 q2 q3 q4 q5 w ((kx_gb tl tc tw (nI (kx_inn nm n - 1)) z ce 0).2.1) nm tl tc tw T (kx_inn nm n - 1) ((kx_gb tl tc tw (nI (kx_inn nm n - 1)) z ce 0).1) wtc wia off) H := hP
  have hD : va_D A (wX0 cA h0 q0 q1 q2 q3 q4 q5 w ((kx_gb tl tc tw (nI (kx_inn nm n - 1)) z ce 0).2.1) nm tl tc tw T (kx_inn nm n - 1) ((kx_gb tl tc tw (nI (kx_inn nm n - 1)) z ce 0).1) wtc wia off) := hD
  refine lv_istore_n (lv' := [(1, .int (nI ((kx_gb tl tc tw (nI (kx_inn nm n - 1)) z ce 0).2.2))), (0, .ref h0)]) hx hb dX0_abort_12 rfl hl (by decide) rfl (fun ls hl => ?_)
  refine lv_aload_n hx hb dX0_abort_13 rfl (lv_at hl 1 rfl) ?_
  refine lv_dup hx hb dX0_abort_14 rfl ?_
  refine va_get (D := (dC, dI)) (ci := 0) (v := .int (nI T)) (C := RX0) (T := TX0) (N := 12) hx hb hts hin hown hK hP 0 rfl rfl 6 (by decide) (hts (.fieldLink RX0 51 "NestCells" "transactions" "I") (by decide +kernel)) (fun _ h9 => h9) rfl dX0_abort_15 ?_
  refine lv_iconst (v := (nI 1)) hx hb dX0_abort_18 (by decide) ?_
  refine kv_subE (d := T - 1) hx hb (by omega) dX0_abort_19 ?_
  refine va_put (D := (dC, dI)) (ci := 0) (v := .int (nI (T - 1))) (ty := .int) (C := RX0) (T := TX0) (N := 12) hx hb hts hin tyX0 tyX0_ok nmX0 hown hK hP hD hS 0 rfl rfl 6 (by decide) (hts (.fieldLink RX0 51 "NestCells" "transactions" "I") (by decide +kernel)) (fun _ h9 => h9) rfl (by decide +kernel) rfl rfl (Nat.le_of_ble_eq_true rfl) dX0_abort_20 (fun H locs hP hD hS => ?_)
  have hP : va_P (dC, dI) vwCl (wX0 cA h0 q0 q1 q2 q3 q4 q5 w ((kx_gb tl tc tw (nI (kx_inn nm n - 1)) z ce 0).2.1) nm tl tc tw (T - 1) (kx_inn nm n - 1) ((kx_gb tl tc tw (nI (kx_inn nm n - 1)) z ce 0).1) wtc wia off) H := hP
  have hD : va_D A (wX0 cA h0 q0 q1 q2 q3 q4 q5 w ((kx_gb tl tc tw (nI (kx_inn nm n - 1)) z ce 0).2.1) nm tl tc tw (T - 1) (kx_inn nm n - 1) ((kx_gb tl tc tw (nI (kx_inn nm n - 1)) z ce 0).1) wtc wia off) := hD
  refine lv_iload_n hx hb dX0_abort_23 rfl (lv_at hl 0 rfl) ?_
  exact kMi_ret hx hb hr hlocks hP hK hD hS dX0_abort_24 rfl rfl
set_option maxHeartbeats 4000000 in
set_option maxRecDepth 100000 in
/-- NestCells.point_f  -/
theorem c_X0_point_f (l : Launch) (dC : Nat → ClassId) (dI : Nat → Nat → Nat) (cA : ClassId) (h0 q0 q1 q2 q3 q4 q5 : Nat) (w ce nm tl tc tw : Nat → Int32) (T n z : Nat) (wtc wia off : Int32) (name : Nat) (hnm : name < 10) (ho : off = 0) (hT : 0 < T) (hT8 : T ≤ 8) (hz : z ≤ 60) (hn : n ≤ 88) (hpl : 2 ≤ kx_pl nm (nI name) (kx_inn nm n) n) : kMi l yX0_point wsX0_point ({ frames := 2, cells := 0, slots := 0, locals := 47 }) dC dI [(cA, .int)] (wX0 cA h0 q0 q1 q2 q3 q4 q5 w ce nm tl tc tw T n z wtc wia off) [.ref h0, .int (nI name)] (nI ((kx_fd (nm, tl, tc, tw, n, z) (kx_pl nm (nI name) (kx_inn nm n) n - 1)).2.2.2.2.1 + 1 - kx_inn (upd (kx_fd (nm, tl, tc, tw, n, z) (kx_pl nm (nI name) (kx_inn nm n) n - 1)).1 (kx_fd (nm, tl, tc, tw, n, z) (kx_pl nm (nI name) (kx_inn nm n) n - 1)).2.2.2.2.1 (nI name)) ((kx_fd (nm, tl, tc, tw, n, z) (kx_pl nm (nI name) (kx_inn nm n) n - 1)).2.2.2.2.1 + 1))) (wX0 cA h0 q0 q1 q2 q3 q4 q5 w ce (upd (kx_fd (nm, tl, tc, tw, n, z) (kx_pl nm (nI name) (kx_inn nm n) n - 1)).1 (kx_fd (nm, tl, tc, tw, n, z) (kx_pl nm (nI name) (kx_inn nm n) n - 1)).2.2.2.2.1 (nI name)) ((kx_fd (nm, tl, tc, tw, n, z) (kx_pl nm (nI name) (kx_inn nm n) n - 1)).2.1) ((kx_fd (nm, tl, tc, tw, n, z) (kx_pl nm (nI name) (kx_inn nm n) n - 1)).2.2.1) ((kx_fd (nm, tl, tc, tw, n, z) (kx_pl nm (nI name) (kx_inn nm n) n - 1)).2.2.2.1) T ((kx_fd (nm, tl, tc, tw, n, z) (kx_pl nm (nI name) (kx_inn nm n) n - 1)).2.2.2.2.1 + 1) ((kx_fd (nm, tl, tc, tw, n, z) (kx_pl nm (nI name) (kx_inn nm n) n - 1)).2.2.2.2.2) wtc wia off) := by
  refine kMi_of (cc := cX0_point) (maxL := 3) (ret := (some .int)) (by decide) rfl (Nat.le_of_ble_eq_true rfl) ?_
  intro p e s m below meth c A ls hx hb hml hr hts hown hlocks hA hP hK hD hS hl
  have hl : lv_has ls 3 [(0, .ref h0), (1, .int (nI name))] := hl
  have hple9 := kx_pl_le nm (nI name) (kx_inn nm n) n
  refine lv_aload_n hx hb dX0_point_0 rfl (lv_at hl 0 rfl) ?_
  refine lv_iload_n hx hb dX0_point_1 rfl (lv_at hl 1 rfl) ?_
  refine kv_Vv (Xr := []) (n := 1) (c_X0_needName l dC dI cA h0 q0 q1 q2 q3 q4 q5 w ce nm tl tc tw T n z wtc wia off name (by omega)) hx hb hml hown hts gX0_point_X0_needName rfl ⟨rfl, rfl⟩ (by decide +kernel) rfl ⟨Nat.le_of_ble_eq_true rfl, Nat.le_of_ble_eq_true rfl⟩ hK hP hD hS hA [0] [0, 1, 2, 3, 4, 5, 6] [] rfl rfl rfl (by decide) (by decide) (q0 := 0) rfl rfl rfl (by decide) hl.1 rfl (Nat.le_of_ble_eq_true rfl) dX0_point_2 ⟨Nat.zero_le _, Nat.zero_le _⟩ (fun H locs hP hD hS => ?_)
  have hP : va_P (dC, dI) vwCl (wX0 cA h0 q0 q1 q2 q3 q4 q5 w ce nm tl tc tw T n z wtc wia off) H := hP
  have hD : va_D A (wX0 cA h0 q0 q1 q2 q3 q4 q5 w ce nm tl tc tw T n z wtc wia off) := hD
  refine lv_aload_n hx hb dX0_point_5 rfl (lv_at hl 0 rfl) ?_
  refine kv_Vv (Xr := []) (n := 0) (c_X0_needTransaction l dC dI cA h0 q0 q1 q2 q3 q4 q5 w ce nm tl tc tw T n z wtc wia off  ho hT hT8) hx hb hml hown hts gX0_point_X0_needTransaction rfl ⟨rfl, rfl⟩ (by decide +kernel) rfl ⟨Nat.le_of_ble_eq_true rfl, Nat.le_of_ble_eq_true rfl⟩ hK hP hD hS hA [0] [0, 1, 2, 3, 4, 5, 6] [] rfl rfl rfl (by decide) (by decide) (q0 := 0) rfl rfl rfl (by decide) hl.1 rfl (Nat.le_of_ble_eq_true rfl) dX0_point_6 ⟨Nat.zero_le _, Nat.zero_le _⟩ (fun H locs hP hD hS => ?_)
  have hP : va_P (dC, dI) vwCl (wX0 cA h0 q0 q1 q2 q3 q4 q5 w ce nm tl tc tw T n z wtc wia off) H := hP
  have hD : va_D A (wX0 cA h0 q0 q1 q2 q3 q4 q5 w ce nm tl tc tw T n z wtc wia off) := hD
  refine lv_aload_n hx hb dX0_point_9 rfl (lv_at hl 0 rfl) ?_
  refine lv_iload_n hx hb dX0_point_10 rfl (lv_at hl 1 rfl) ?_
  refine kv_Vi (Xr := []) (n := 1) (c_X0_pointLevel l dC dI cA h0 q0 q1 q2 q3 q4 q5 w ce nm tl tc tw T n z wtc wia off (nI name) (by omega)) hx hb hml hown hts gX0_point_X0_pointLevel rfl ⟨rfl, rfl⟩ (by decide +kernel) rfl ⟨Nat.le_of_ble_eq_true rfl, Nat.le_of_ble_eq_true rfl⟩ hK hP hD hS hA [0] [0, 1, 2, 3, 4, 5, 6] [] rfl rfl rfl (by decide) (by decide) (q0 := 0) rfl rfl rfl (by decide) hl.1 rfl (Nat.le_of_ble_eq_true rfl) dX0_point_11 ⟨Nat.zero_le _, Nat.zero_le _⟩ (fun H locs hP hD hS => ?_)
  have hP : va_P (dC, dI) vwCl (wX0 cA h0 q0 q1 q2 q3 q4 q5 w ce nm tl tc tw T n z wtc wia off) H := hP
  have hD : va_D A (wX0 cA h0 q0 q1 q2 q3 q4 q5 w ce nm tl tc tw T n z wtc wia off) := hD
  refine lv_istore_n (lv' := [(2, .int (nI (kx_pl nm (nI name) (kx_inn nm n) n) - nI 1)), (0, .ref h0), (1, .int (nI name))]) hx hb dX0_point_14 rfl hl (by decide) rfl (fun ls hl => ?_)
  have hl : lv_has ls 3 [(2, .int (nI (kx_pl nm (nI name) (kx_inn nm n) n - 1))), (0, .ref h0), (1, .int (nI name))] := by rw [← pk_sub (Nat.le_of_succ_le hpl)]; exact hl
  refine lv_iload_n hx hb dX0_point_15 rfl (lv_at hl 0 rfl) ?_
  refine lv_iconst (v := (-1)) hx hb dX0_point_16 (by decide) ?_
  refine lv_icmp_eq (tgt := 25) hx hb dX0_point_17 (by decide) (fun h17_0 => absurd h17_0 (kv_nm1 (by omega))) (fun h17_0 => ?_)
  refine lv_aload_n hx hb dX0_point_20 rfl (lv_at hl 1 rfl) ?_
  refine lv_iload_n hx hb dX0_point_21 rfl (lv_at hl 0 rfl) ?_
  refine kv_Vv (Xr := []) (n := 1) (c_X0_foldLevel l dC dI cA h0 q0 q1 q2 q3 q4 q5 w ce nm tl tc tw T n z wtc wia off (kx_pl nm (nI name) (kx_inn nm n) n - 1) (by omega) (by omega) (by omega) (by omega)) hx hb hml hown hts gX0_point_X0_foldLevel rfl ⟨rfl, rfl⟩ (by decide +kernel) rfl ⟨Nat.le_of_ble_eq_true rfl, Nat.le_of_ble_eq_true rfl⟩ hK hP hD hS hA [0] [0, 1, 2, 3, 4, 5, 6] [] rfl rfl rfl (by decide) (by decide) (q0 := 0) rfl rfl rfl (by decide) hl.1 rfl (Nat.le_of_ble_eq_true rfl) dX0_point_22 ⟨Nat.zero_le _, Nat.zero_le _⟩ (fun H locs hP hD hS => ?_)
  have hP : va_P (dC, dI) vwCl (wX0 cA h0 q0 q1 q2 q3 q4 q5 w ce (kx_sh nm (kx_pl nm (nI name) (kx_inn nm n) n - 1) n) ((kx_fo (kx_tc tl tc (nI ((kx_pl nm (nI name) (kx_inn nm n) n - 1) - 1)) z) (nI (kx_pl nm (nI name) (kx_inn nm n) n - 1)) tl tc tw z).2.1) ((kx_fo (kx_tc tl tc (nI ((kx_pl nm (nI name) (kx_inn nm n) n - 1) - 1)) z) (nI (kx_pl nm (nI name) (kx_inn nm n) n - 1)) tl tc tw z).2.2.1) ((kx_fo (kx_tc tl tc (nI ((kx_pl nm (nI name) (kx_inn nm n) n - 1) - 1)) z) (nI (kx_pl nm (nI name) (kx_inn nm n) n - 1)) tl tc tw z).2.2.2) T (n - 1) ((kx_fo (kx_tc tl tc (nI ((kx_pl nm (nI name) (kx_inn nm n) n - 1) - 1)) z) (nI (kx_pl nm (nI name) (kx_inn nm n) n - 1)) tl tc tw z).1) wtc wia off) H := hP
  have hD : va_D A (wX0 cA h0 q0 q1 q2 q3 q4 q5 w ce (kx_sh nm (kx_pl nm (nI name) (kx_inn nm n) n - 1) n) ((kx_fo (kx_tc tl tc (nI ((kx_pl nm (nI name) (kx_inn nm n) n - 1) - 1)) z) (nI (kx_pl nm (nI name) (kx_inn nm n) n - 1)) tl tc tw z).2.1) ((kx_fo (kx_tc tl tc (nI ((kx_pl nm (nI name) (kx_inn nm n) n - 1) - 1)) z) (nI (kx_pl nm (nI name) (kx_inn nm n) n - 1)) tl tc tw z).2.2.1) ((kx_fo (kx_tc tl tc (nI ((kx_pl nm (nI name) (kx_inn nm n) n - 1) - 1)) z) (nI (kx_pl nm (nI name) (kx_inn nm n) n - 1)) tl tc tw z).2.2.2) T (n - 1) ((kx_fo (kx_tc tl tc (nI ((kx_pl nm (nI name) (kx_inn nm n) n - 1) - 1)) z) (nI (kx_pl nm (nI name) (kx_inn nm n) n - 1)) tl tc tw z).1) wtc wia off) := hD
  have hP : va_P (dC, dI) vwCl (wX0 cA h0 q0 q1 q2 q3 q4 q5 w ce ((kx_fd (nm, tl, tc, tw, n, z) (kx_pl nm (nI name) (kx_inn nm n) n - 1)).1) ((kx_fd (nm, tl, tc, tw, n, z) (kx_pl nm (nI name) (kx_inn nm n) n - 1)).2.1) ((kx_fd (nm, tl, tc, tw, n, z) (kx_pl nm (nI name) (kx_inn nm n) n - 1)).2.2.1) ((kx_fd (nm, tl, tc, tw, n, z) (kx_pl nm (nI name) (kx_inn nm n) n - 1)).2.2.2.1) T ((kx_fd (nm, tl, tc, tw, n, z) (kx_pl nm (nI name) (kx_inn nm n) n - 1)).2.2.2.2.1) ((kx_fd (nm, tl, tc, tw, n, z) (kx_pl nm (nI name) (kx_inn nm n) n - 1)).2.2.2.2.2) wtc wia off) H := by exact hP
  have hD : va_D A (wX0 cA h0 q0 q1 q2 q3 q4 q5 w ce ((kx_fd (nm, tl, tc, tw, n, z) (kx_pl nm (nI name) (kx_inn nm n) n - 1)).1) ((kx_fd (nm, tl, tc, tw, n, z) (kx_pl nm (nI name) (kx_inn nm n) n - 1)).2.1) ((kx_fd (nm, tl, tc, tw, n, z) (kx_pl nm (nI name) (kx_inn nm n) n - 1)).2.2.1) ((kx_fd (nm, tl, tc, tw, n, z) (kx_pl nm (nI name) (kx_inn nm n) n - 1)).2.2.2.1) T ((kx_fd (nm, tl, tc, tw, n, z) (kx_pl nm (nI name) (kx_inn nm n) n - 1)).2.2.2.2.1) ((kx_fd (nm, tl, tc, tw, n, z) (kx_pl nm (nI name) (kx_inn nm n) n - 1)).2.2.2.2.2) wtc wia off) := by exact hD
  have hple := kx_pl_le nm (nI name) (kx_inn nm n) n
  have hfn : (kx_fd (nm, tl, tc, tw, n, z) (kx_pl nm (nI name) (kx_inn nm n) n - 1)).2.2.2.2.1 = n - 1 := rfl
  have hfz := kx_fd_z (nm, tl, tc, tw, n, z) (kx_pl nm (nI name) (kx_inn nm n) n - 1)
  refine lv_aload_n hx hb dX0_point_25 rfl (lv_at hl 1 rfl) ?_
  refine lv_iload_n hx hb dX0_point_26 rfl (lv_at hl 2 rfl) ?_
  refine kv_Vv (Xr := []) (n := 1) (c_X0_openLevel l dC dI cA h0 q0 q1 q2 q3 q4 q5 w ce ((kx_fd (nm, tl, tc, tw, n, z) (kx_pl nm (nI name) (kx_inn nm n) n - 1)).1) ((kx_fd (nm, tl, tc, tw, n, z) (kx_pl nm (nI name) (kx_inn nm n) n - 1)).2.1) ((kx_fd (nm, tl, tc, tw, n, z) (kx_pl nm (nI name) (kx_inn nm n) n - 1)).2.2.1) ((kx_fd (nm, tl, tc, tw, n, z) (kx_pl nm (nI name) (kx_inn nm n) n - 1)).2.2.2.1) T ((kx_fd (nm, tl, tc, tw, n, z) (kx_pl nm (nI name) (kx_inn nm n) n - 1)).2.2.2.2.1) ((kx_fd (nm, tl, tc, tw, n, z) (kx_pl nm (nI name) (kx_inn nm n) n - 1)).2.2.2.2.2) wtc wia off (nI name) (by omega)) hx hb hml hown hts gX0_point_X0_openLevel rfl ⟨rfl, rfl⟩ (by decide +kernel) rfl ⟨Nat.le_of_ble_eq_true rfl, Nat.le_of_ble_eq_true rfl⟩ hK hP hD hS hA [0] [0, 1, 2, 3, 4, 5, 6] [] rfl rfl rfl (by decide) (by decide) (q0 := 0) rfl rfl rfl (by decide) hl.1 rfl (Nat.le_of_ble_eq_true rfl) dX0_point_27 ⟨Nat.zero_le _, Nat.zero_le _⟩ (fun H locs hP hD hS => ?_)
  have hP : va_P (dC, dI) vwCl (wX0 cA h0 q0 q1 q2 q3 q4 q5 w ce (upd ((kx_fd (nm, tl, tc, tw, n, z) (kx_pl nm (nI name) (kx_inn nm n) n - 1)).1) ((kx_fd (nm, tl, tc, tw, n, z) (kx_pl nm (nI name) (kx_inn nm n) n - 1)).2.2.2.2.1) (nI name)) ((kx_fd (nm, tl, tc, tw, n, z) (kx_pl nm (nI name) (kx_inn nm n) n - 1)).2.1) ((kx_fd (nm, tl, tc, tw, n, z) (kx_pl nm (nI name) (kx_inn nm n) n - 1)).2.2.1) ((kx_fd (nm, tl, tc, tw, n, z) (kx_pl nm (nI name) (kx_inn nm n) n - 1)).2.2.2.1) T (((kx_fd (nm, tl, tc, tw, n, z) (kx_pl nm (nI name) (kx_inn nm n) n - 1)).2.2.2.2.1) + 1) ((kx_fd (nm, tl, tc, tw, n, z) (kx_pl nm (nI name) (kx_inn nm n) n - 1)).2.2.2.2.2) wtc wia off) H := hP
  have hD : va_D A (wX0 cA h0 q0 q1 q2 q3 q4 q5 w ce (upd ((kx_fd (nm, tl, tc, tw, n, z) (kx_pl nm (nI name) (kx_inn nm n) n - 1)).1) ((kx_fd (nm, tl, tc, tw, n, z) (kx_pl nm (nI name) (kx_inn nm n) n - 1)).2.2.2.2.1) (nI name)) ((kx_fd (nm, tl, tc, tw, n, z) (kx_pl nm (nI name) (kx_inn nm n) n - 1)).2.1) ((kx_fd (nm, tl, tc, tw, n, z) (kx_pl nm (nI name) (kx_inn nm n) n - 1)).2.2.1) ((kx_fd (nm, tl, tc, tw, n, z) (kx_pl nm (nI name) (kx_inn nm n) n - 1)).2.2.2.1) T (((kx_fd (nm, tl, tc, tw, n, z) (kx_pl nm (nI name) (kx_inn nm n) n - 1)).2.2.2.2.1) + 1) ((kx_fd (nm, tl, tc, tw, n, z) (kx_pl nm (nI name) (kx_inn nm n) n - 1)).2.2.2.2.2) wtc wia off) := hD
  refine lv_aload_n hx hb dX0_point_30 rfl (lv_at hl 1 rfl) ?_
  refine kv_Vi (Xr := []) (n := 0) (c_X0_points l dC dI cA h0 q0 q1 q2 q3 q4 q5 w ce (upd ((kx_fd (nm, tl, tc, tw, n, z) (kx_pl nm (nI name) (kx_inn nm n) n - 1)).1) ((kx_fd (nm, tl, tc, tw, n, z) (kx_pl nm (nI name) (kx_inn nm n) n - 1)).2.2.2.2.1) (nI name)) ((kx_fd (nm, tl, tc, tw, n, z) (kx_pl nm (nI name) (kx_inn nm n) n - 1)).2.1) ((kx_fd (nm, tl, tc, tw, n, z) (kx_pl nm (nI name) (kx_inn nm n) n - 1)).2.2.1) ((kx_fd (nm, tl, tc, tw, n, z) (kx_pl nm (nI name) (kx_inn nm n) n - 1)).2.2.2.1) T (((kx_fd (nm, tl, tc, tw, n, z) (kx_pl nm (nI name) (kx_inn nm n) n - 1)).2.2.2.2.1) + 1) ((kx_fd (nm, tl, tc, tw, n, z) (kx_pl nm (nI name) (kx_inn nm n) n - 1)).2.2.2.2.2) wtc wia off  (by omega)) hx hb hml hown hts gX0_point_X0_points rfl ⟨rfl, rfl⟩ (by decide +kernel) rfl ⟨Nat.le_of_ble_eq_true rfl, Nat.le_of_ble_eq_true rfl⟩ hK hP hD hS hA [0] [0, 1, 2, 3, 4, 5, 6] [] rfl rfl rfl (by decide) (by decide) (q0 := 0) rfl rfl rfl (by decide) hl.1 rfl (Nat.le_of_ble_eq_true rfl) dX0_point_31 ⟨Nat.zero_le _, Nat.zero_le _⟩ (fun H locs hP hD hS => ?_)
  have hP : va_P (dC, dI) vwCl (wX0 cA h0 q0 q1 q2 q3 q4 q5 w ce (upd ((kx_fd (nm, tl, tc, tw, n, z) (kx_pl nm (nI name) (kx_inn nm n) n - 1)).1) ((kx_fd (nm, tl, tc, tw, n, z) (kx_pl nm (nI name) (kx_inn nm n) n - 1)).2.2.2.2.1) (nI name)) ((kx_fd (nm, tl, tc, tw, n, z) (kx_pl nm (nI name) (kx_inn nm n) n - 1)).2.1) ((kx_fd (nm, tl, tc, tw, n, z) (kx_pl nm (nI name) (kx_inn nm n) n - 1)).2.2.1) ((kx_fd (nm, tl, tc, tw, n, z) (kx_pl nm (nI name) (kx_inn nm n) n - 1)).2.2.2.1) T (((kx_fd (nm, tl, tc, tw, n, z) (kx_pl nm (nI name) (kx_inn nm n) n - 1)).2.2.2.2.1) + 1) ((kx_fd (nm, tl, tc, tw, n, z) (kx_pl nm (nI name) (kx_inn nm n) n - 1)).2.2.2.2.2) wtc wia off) H := hP
  have hD : va_D A (wX0 cA h0 q0 q1 q2 q3 q4 q5 w ce (upd ((kx_fd (nm, tl, tc, tw, n, z) (kx_pl nm (nI name) (kx_inn nm n) n - 1)).1) ((kx_fd (nm, tl, tc, tw, n, z) (kx_pl nm (nI name) (kx_inn nm n) n - 1)).2.2.2.2.1) (nI name)) ((kx_fd (nm, tl, tc, tw, n, z) (kx_pl nm (nI name) (kx_inn nm n) n - 1)).2.1) ((kx_fd (nm, tl, tc, tw, n, z) (kx_pl nm (nI name) (kx_inn nm n) n - 1)).2.2.1) ((kx_fd (nm, tl, tc, tw, n, z) (kx_pl nm (nI name) (kx_inn nm n) n - 1)).2.2.2.1) T (((kx_fd (nm, tl, tc, tw, n, z) (kx_pl nm (nI name) (kx_inn nm n) n - 1)).2.2.2.2.1) + 1) ((kx_fd (nm, tl, tc, tw, n, z) (kx_pl nm (nI name) (kx_inn nm n) n - 1)).2.2.2.2.2) wtc wia off) := hD
  exact kMi_ret hx hb hr hlocks hP hK hD hS dX0_point_34 rfl rfl
set_option maxHeartbeats 4000000 in
set_option maxRecDepth 100000 in
/-- NestCells.point_n  -/
theorem c_X0_point_n (l : Launch) (dC : Nat → ClassId) (dI : Nat → Nat → Nat) (cA : ClassId) (h0 q0 q1 q2 q3 q4 q5 : Nat) (w ce nm tl tc tw : Nat → Int32) (T n z : Nat) (wtc wia off : Int32) (name : Nat) (hnm : name < 10) (ho : off = 0) (hT : 0 < T) (hT8 : T ≤ 8) (hz : z ≤ 60) (hn : n < 88) (hpl : kx_pl nm (nI name) (kx_inn nm n) n = 0) : kMi l yX0_point wsX0_point ({ frames := 2, cells := 0, slots := 0, locals := 47 }) dC dI [(cA, .int)] (wX0 cA h0 q0 q1 q2 q3 q4 q5 w ce nm tl tc tw T n z wtc wia off) [.ref h0, .int (nI name)] (nI (n + 1 - kx_inn (upd nm n (nI name)) (n + 1))) (wX0 cA h0 q0 q1 q2 q3 q4 q5 w ce (upd nm n (nI name)) tl tc tw T (n + 1) z wtc wia off) := by
  refine kMi_of (cc := cX0_point) (maxL := 3) (ret := (some .int)) (by decide) rfl (Nat.le_of_ble_eq_true rfl) ?_
  intro p e s m below meth c A ls hx hb hml hr hts hown hlocks hA hP hK hD hS hl
  have hl : lv_has ls 3 [(0, .ref h0), (1, .int (nI name))] := hl
  refine lv_aload_n hx hb dX0_point_0 rfl (lv_at hl 0 rfl) ?_
  refine lv_iload_n hx hb dX0_point_1 rfl (lv_at hl 1 rfl) ?_
  refine kv_Vv (Xr := []) (n := 1) (c_X0_needName l dC dI cA h0 q0 q1 q2 q3 q4 q5 w ce nm tl tc tw T n z wtc wia off name (by omega)) hx hb hml hown hts gX0_point_X0_needName rfl ⟨rfl, rfl⟩ (by decide +kernel) rfl ⟨Nat.le_of_ble_eq_true rfl, Nat.le_of_ble_eq_true rfl⟩ hK hP hD hS hA [0] [0, 1, 2, 3, 4, 5, 6] [] rfl rfl rfl (by decide) (by decide) (q0 := 0) rfl rfl rfl (by decide) hl.1 rfl (Nat.le_of_ble_eq_true rfl) dX0_point_2 ⟨Nat.zero_le _, Nat.zero_le _⟩ (fun H locs hP hD hS => ?_)
  have hP : va_P (dC, dI) vwCl (wX0 cA h0 q0 q1 q2 q3 q4 q5 w ce nm tl tc tw T n z wtc wia off) H := hP
  have hD : va_D A (wX0 cA h0 q0 q1 q2 q3 q4 q5 w ce nm tl tc tw T n z wtc wia off) := hD
  refine lv_aload_n hx hb dX0_point_5 rfl (lv_at hl 0 rfl) ?_
  refine kv_Vv (Xr := []) (n := 0) (c_X0_needTransaction l dC dI cA h0 q0 q1 q2 q3 q4 q5 w ce nm tl tc tw T n z wtc wia off  ho hT hT8) hx hb hml hown hts gX0_point_X0_needTransaction rfl ⟨rfl, rfl⟩ (by decide +kernel) rfl ⟨Nat.le_of_ble_eq_true rfl, Nat.le_of_ble_eq_true rfl⟩ hK hP hD hS hA [0] [0, 1, 2, 3, 4, 5, 6] [] rfl rfl rfl (by decide) (by decide) (q0 := 0) rfl rfl rfl (by decide) hl.1 rfl (Nat.le_of_ble_eq_true rfl) dX0_point_6 ⟨Nat.zero_le _, Nat.zero_le _⟩ (fun H locs hP hD hS => ?_)
  have hP : va_P (dC, dI) vwCl (wX0 cA h0 q0 q1 q2 q3 q4 q5 w ce nm tl tc tw T n z wtc wia off) H := hP
  have hD : va_D A (wX0 cA h0 q0 q1 q2 q3 q4 q5 w ce nm tl tc tw T n z wtc wia off) := hD
  refine lv_aload_n hx hb dX0_point_9 rfl (lv_at hl 0 rfl) ?_
  refine lv_iload_n hx hb dX0_point_10 rfl (lv_at hl 1 rfl) ?_
  refine kv_Vi (Xr := []) (n := 1) (c_X0_pointLevel l dC dI cA h0 q0 q1 q2 q3 q4 q5 w ce nm tl tc tw T n z wtc wia off (nI name) (by omega)) hx hb hml hown hts gX0_point_X0_pointLevel rfl ⟨rfl, rfl⟩ (by decide +kernel) rfl ⟨Nat.le_of_ble_eq_true rfl, Nat.le_of_ble_eq_true rfl⟩ hK hP hD hS hA [0] [0, 1, 2, 3, 4, 5, 6] [] rfl rfl rfl (by decide) (by decide) (q0 := 0) rfl rfl rfl (by decide) hl.1 rfl (Nat.le_of_ble_eq_true rfl) dX0_point_11 ⟨Nat.zero_le _, Nat.zero_le _⟩ (fun H locs hP hD hS => ?_)
  have hP : va_P (dC, dI) vwCl (wX0 cA h0 q0 q1 q2 q3 q4 q5 w ce nm tl tc tw T n z wtc wia off) H := hP
  have hD : va_D A (wX0 cA h0 q0 q1 q2 q3 q4 q5 w ce nm tl tc tw T n z wtc wia off) := hD
  refine lv_istore_n (lv' := [(2, .int (nI (kx_pl nm (nI name) (kx_inn nm n) n) - nI 1)), (0, .ref h0), (1, .int (nI name))]) hx hb dX0_point_14 rfl hl (by decide) rfl (fun ls hl => ?_)
  have hl : lv_has ls 3 [(2, .int (-1)), (0, .ref h0), (1, .int (nI name))] := by rw [hpl] at hl; rw [← kv_m1]; exact hl
  refine lv_iload_n hx hb dX0_point_15 rfl (lv_at hl 0 rfl) ?_
  refine lv_iconst (v := (-1)) hx hb dX0_point_16 (by decide) ?_
  refine lv_icmp_eq (tgt := 25) hx hb dX0_point_17 (by decide) (fun h17_0 => ?_) (fun h17_0 => absurd h17_0 (fun q => q rfl))
  refine lv_aload_n hx hb dX0_point_25 rfl (lv_at hl 1 rfl) ?_
  refine lv_iload_n hx hb dX0_point_26 rfl (lv_at hl 2 rfl) ?_
  refine kv_Vv (Xr := []) (n := 1) (c_X0_openLevel l dC dI cA h0 q0 q1 q2 q3 q4 q5 w ce nm tl tc tw T n z wtc wia off (nI name) (by omega)) hx hb hml hown hts gX0_point_X0_openLevel rfl ⟨rfl, rfl⟩ (by decide +kernel) rfl ⟨Nat.le_of_ble_eq_true rfl, Nat.le_of_ble_eq_true rfl⟩ hK hP hD hS hA [0] [0, 1, 2, 3, 4, 5, 6] [] rfl rfl rfl (by decide) (by decide) (q0 := 0) rfl rfl rfl (by decide) hl.1 rfl (Nat.le_of_ble_eq_true rfl) dX0_point_27 ⟨Nat.zero_le _, Nat.zero_le _⟩ (fun H locs hP hD hS => ?_)
  have hP : va_P (dC, dI) vwCl (wX0 cA h0 q0 q1 q2 q3 q4 q5 w ce (upd nm n (nI name)) tl tc tw T (n + 1) z wtc wia off) H := hP
  have hD : va_D A (wX0 cA h0 q0 q1 q2 q3 q4 q5 w ce (upd nm n (nI name)) tl tc tw T (n + 1) z wtc wia off) := hD
  refine lv_aload_n hx hb dX0_point_30 rfl (lv_at hl 1 rfl) ?_
  refine kv_Vi (Xr := []) (n := 0) (c_X0_points l dC dI cA h0 q0 q1 q2 q3 q4 q5 w ce (upd nm n (nI name)) tl tc tw T (n + 1) z wtc wia off  (by omega)) hx hb hml hown hts gX0_point_X0_points rfl ⟨rfl, rfl⟩ (by decide +kernel) rfl ⟨Nat.le_of_ble_eq_true rfl, Nat.le_of_ble_eq_true rfl⟩ hK hP hD hS hA [0] [0, 1, 2, 3, 4, 5, 6] [] rfl rfl rfl (by decide) (by decide) (q0 := 0) rfl rfl rfl (by decide) hl.1 rfl (Nat.le_of_ble_eq_true rfl) dX0_point_31 ⟨Nat.zero_le _, Nat.zero_le _⟩ (fun H locs hP hD hS => ?_)
  have hP : va_P (dC, dI) vwCl (wX0 cA h0 q0 q1 q2 q3 q4 q5 w ce (upd nm n (nI name)) tl tc tw T (n + 1) z wtc wia off) H := hP
  have hD : va_D A (wX0 cA h0 q0 q1 q2 q3 q4 q5 w ce (upd nm n (nI name)) tl tc tw T (n + 1) z wtc wia off) := hD
  exact kMi_ret hx hb hr hlocks hP hK hD hS dX0_point_34 rfl rfl
set_option maxHeartbeats 4000000 in
set_option maxRecDepth 100000 in
/-- NestCells.back  -/
theorem c_X0_back (l : Launch) (dC : Nat → ClassId) (dI : Nat → Nat → Nat) (cA : ClassId) (h0 q0 q1 q2 q3 q4 q5 : Nat) (w ce nm tl tc tw : Nat → Int32) (T n z : Nat) (wtc wia off : Int32) (name : Nat) (hnm : name < 10) (ho : off = 0) (hT : 0 < T) (hT8 : T ≤ 8) (hz : z ≤ 60) (hn : n ≤ 88) (htc : ∀ t, t < z → ∃ i : Nat, i < 32 ∧ tc t = nI i) (hpl : 1 ≤ kx_pl nm (nI name) (kx_inn nm n) n) : kMi l yX0_back wsX0_back ({ frames := 3, cells := 0, slots := 0, locals := 66 }) dC dI [(cA, .int)] (wX0 cA h0 q0 q1 q2 q3 q4 q5 w ce nm tl tc tw T n z wtc wia off) [.ref h0, .int (nI name)] (nI ((kx_gb tl tc tw (nI (kx_pl nm (nI name) (kx_inn nm n) n - 1)) z ce 0).2.2)) (wX0 cA h0 q0 q1 q2 q3 q4 q5 w ((kx_gb tl tc tw (nI (kx_pl nm (nI name) (kx_inn nm n) n - 1)) z ce 0).2.1) (upd nm (kx_pl nm (nI name) (kx_inn nm n) n - 1) (nI name)) tl tc tw T (kx_pl nm (nI name) (kx_inn nm n) n - 1 + 1) ((kx_gb tl tc tw (nI (kx_pl nm (nI name) (kx_inn nm n) n - 1)) z ce 0).1) wtc wia off) := by
  refine kMi_of (cc := cX0_back) (maxL := 3) (ret := (some .int)) (by decide) rfl (Nat.le_of_ble_eq_true rfl) ?_
  intro p e s m below meth c A ls hx hb hml hr hts hown hlocks hA hP hK hD hS hl
  have hl : lv_has ls 3 [(0, .ref h0), (1, .int (nI name))] := hl
  have hple9 := kx_pl_le nm (nI name) (kx_inn nm n) n
  refine lv_aload_n hx hb dX0_back_0 rfl (lv_at hl 0 rfl) ?_
  refine lv_iload_n hx hb dX0_back_1 rfl (lv_at hl 1 rfl) ?_
  refine kv_Vv (Xr := []) (n := 1) (c_X0_needName l dC dI cA h0 q0 q1 q2 q3 q4 q5 w ce nm tl tc tw T n z wtc wia off name (by omega)) hx hb hml hown hts gX0_back_X0_needName rfl ⟨rfl, rfl⟩ (by decide +kernel) rfl ⟨Nat.le_of_ble_eq_true rfl, Nat.le_of_ble_eq_true rfl⟩ hK hP hD hS hA [0] [0, 1, 2, 3, 4, 5, 6] [] rfl rfl rfl (by decide) (by decide) (q0 := 0) rfl rfl rfl (by decide) hl.1 rfl (Nat.le_of_ble_eq_true rfl) dX0_back_2 ⟨Nat.zero_le _, Nat.zero_le _⟩ (fun H locs hP hD hS => ?_)
  have hP : va_P (dC, dI) vwCl (wX0 cA h0 q0 q1 q2 q3 q4 q5 w ce nm tl tc tw T n z wtc wia off) H := hP
  have hD : va_D A (wX0 cA h0 q0 q1 q2 q3 q4 q5 w ce nm tl tc tw T n z wtc wia off) := hD
  refine lv_aload_n hx hb dX0_back_5 rfl (lv_at hl 0 rfl) ?_
  refine kv_Vv (Xr := []) (n := 0) (c_X0_needTransaction l dC dI cA h0 q0 q1 q2 q3 q4 q5 w ce nm tl tc tw T n z wtc wia off  ho hT hT8) hx hb hml hown hts gX0_back_X0_needTransaction rfl ⟨rfl, rfl⟩ (by decide +kernel) rfl ⟨Nat.le_of_ble_eq_true rfl, Nat.le_of_ble_eq_true rfl⟩ hK hP hD hS hA [0] [0, 1, 2, 3, 4, 5, 6] [] rfl rfl rfl (by decide) (by decide) (q0 := 0) rfl rfl rfl (by decide) hl.1 rfl (Nat.le_of_ble_eq_true rfl) dX0_back_6 ⟨Nat.zero_le _, Nat.zero_le _⟩ (fun H locs hP hD hS => ?_)
  have hP : va_P (dC, dI) vwCl (wX0 cA h0 q0 q1 q2 q3 q4 q5 w ce nm tl tc tw T n z wtc wia off) H := hP
  have hD : va_D A (wX0 cA h0 q0 q1 q2 q3 q4 q5 w ce nm tl tc tw T n z wtc wia off) := hD
  refine lv_aload_n hx hb dX0_back_9 rfl (lv_at hl 0 rfl) ?_
  refine lv_aload_n hx hb dX0_back_10 rfl (lv_at hl 0 rfl) ?_
  refine lv_iload_n hx hb dX0_back_11 rfl (lv_at hl 1 rfl) ?_
  refine kv_Vi (Xr := []) (n := 1) (c_X0_needPoint l dC dI cA h0 q0 q1 q2 q3 q4 q5 w ce nm tl tc tw T n z wtc wia off name hn hpl) hx hb hml hown hts gX0_back_X0_needPoint rfl ⟨rfl, rfl⟩ (by decide +kernel) rfl ⟨Nat.le_of_ble_eq_true rfl, Nat.le_of_ble_eq_true rfl⟩ hK hP hD hS hA [0] [0, 1, 2, 3, 4, 5, 6] [] rfl rfl rfl (by decide) (by decide) (q0 := 0) rfl rfl rfl (by decide) hl.1 rfl (Nat.le_of_ble_eq_true rfl) dX0_back_12 ⟨Nat.zero_le _, Nat.zero_le _⟩ (fun H locs hP hD hS => ?_)
  have hP : va_P (dC, dI) vwCl (wX0 cA h0 q0 q1 q2 q3 q4 q5 w ce nm tl tc tw T n z wtc wia off) H := hP
  have hD : va_D A (wX0 cA h0 q0 q1 q2 q3 q4 q5 w ce nm tl tc tw T n z wtc wia off) := hD
  refine kv_Vi (Xr := []) (n := 1) (c_X0_goBack l dC dI cA h0 q0 q1 q2 q3 q4 q5 w ce nm tl tc tw T n z wtc wia off (kx_pl nm (nI name) (kx_inn nm n) n - 1) hz htc) hx hb hml hown hts gX0_back_X0_goBack rfl ⟨rfl, rfl⟩ (by decide +kernel) rfl ⟨Nat.le_of_ble_eq_true rfl, Nat.le_of_ble_eq_true rfl⟩ hK hP hD hS hA [0] [0, 1, 2, 3, 4, 5, 6] [] rfl rfl rfl (by decide) (by decide) (q0 := 0) rfl rfl rfl (by decide) hl.1 rfl (Nat.le_of_ble_eq_true rfl) dX0_back_15 ⟨Nat.zero_le _, Nat.zero_le _⟩ (fun H locs hP hD hS => ?_)
  have hP : va_P (dC, dI) vwCl (wX0 cA h0 q0 q1 q2 q3 q4 q5 w ((kx_gb tl tc tw (nI (kx_pl nm (nI name) (kx_inn nm n) n - 1)) z ce 0).2.1) nm tl tc tw T (kx_pl nm (nI name) (kx_inn nm n) n - 1) ((kx_gb tl tc tw (nI (kx_pl nm (nI name) (kx_inn nm n) n - 1)) z ce 0).1) wtc wia off) H := hP
  have hD : va_D A (wX0 cA h0 q0 q1 q2 q3 q4 q5 w ((kx_gb tl tc tw (nI (kx_pl nm (nI name) (kx_inn nm n) n - 1)) z ce 0).2.1) nm tl tc tw T (kx_pl nm (nI name) (kx_inn nm n) n - 1) ((kx_gb tl tc tw (nI (kx_pl nm (nI name) (kx_inn nm n) n - 1)) z ce 0).1) wtc wia off) := hD
  refine lv_istore_n (lv' := [(2, .int (nI ((kx_gb tl tc tw (nI (kx_pl nm (nI name) (kx_inn nm n) n - 1)) z ce 0).2.2))), (0, .ref h0), (1, .int (nI name))]) hx hb dX0_back_18 rfl hl (by decide) rfl (fun ls hl => ?_)
  refine lv_aload_n hx hb dX0_back_19 rfl (lv_at hl 1 rfl) ?_
  refine lv_iload_n hx hb dX0_back_20 rfl (lv_at hl 2 rfl) ?_
  refine kv_Vv (Xr := []) (n := 1) (c_X0_openLevel l dC dI cA h0 q0 q1 q2 q3 q4 q5 w ((kx_gb tl tc tw (nI (kx_pl nm (nI name) (kx_inn nm n) n - 1)) z ce 0).2.1) nm tl tc tw T (kx_pl nm (nI name) (kx_inn nm n) n - 1) ((kx_gb tl tc tw (nI (kx_pl nm (nI name) (kx_inn nm n) n - 1)) z ce 0).1) wtc wia off (nI name) (by omega)) hx hb hml hown hts gX0_back_X0_openLevel rfl ⟨rfl, rfl⟩ (by decide +kernel) rfl ⟨Nat.le_of_ble_eq_true rfl, Nat.le_of_ble_eq_true rfl⟩ hK hP hD hS hA [0] [0, 1, 2, 3, 4, 5, 6] [] rfl rfl rfl (by decide) (by decide) (q0 := 0) rfl rfl rfl (by decide) hl.1 rfl (Nat.le_of_ble_eq_true rfl) dX0_back_21 ⟨Nat.zero_le _, Nat.zero_le _⟩ (fun H locs hP hD hS => ?_)
  have hP : va_P (dC, dI) vwCl (wX0 cA h0 q0 q1 q2 q3 q4 q5 w ((kx_gb tl tc tw (nI (kx_pl nm (nI name) (kx_inn nm n) n - 1)) z ce 0).2.1) (upd nm (kx_pl nm (nI name) (kx_inn nm n) n - 1) (nI name)) tl tc tw T ((kx_pl nm (nI name) (kx_inn nm n) n - 1) + 1) ((kx_gb tl tc tw (nI (kx_pl nm (nI name) (kx_inn nm n) n - 1)) z ce 0).1) wtc wia off) H := hP
  have hD : va_D A (wX0 cA h0 q0 q1 q2 q3 q4 q5 w ((kx_gb tl tc tw (nI (kx_pl nm (nI name) (kx_inn nm n) n - 1)) z ce 0).2.1) (upd nm (kx_pl nm (nI name) (kx_inn nm n) n - 1) (nI name)) tl tc tw T ((kx_pl nm (nI name) (kx_inn nm n) n - 1) + 1) ((kx_gb tl tc tw (nI (kx_pl nm (nI name) (kx_inn nm n) n - 1)) z ce 0).1) wtc wia off) := hD
  refine lv_iload_n hx hb dX0_back_24 rfl (lv_at hl 0 rfl) ?_
  exact kMi_ret hx hb hr hlocks hP hK hD hS dX0_back_25 rfl rfl
set_option maxHeartbeats 4000000 in
set_option maxRecDepth 100000 in
/-- NestCells.release  -/
theorem c_X0_release (l : Launch) (dC : Nat → ClassId) (dI : Nat → Nat → Nat) (cA : ClassId) (h0 q0 q1 q2 q3 q4 q5 : Nat) (w ce nm tl tc tw : Nat → Int32) (T n z : Nat) (wtc wia off : Int32) (name : Nat) (hnm : name < 10) (ho : off = 0) (hT : 0 < T) (hT8 : T ≤ 8) (hz : z ≤ 60) (hn : n ≤ 88) (hpl : 2 ≤ kx_pl nm (nI name) (kx_inn nm n) n) : kMi l yX0_release wsX0_release ({ frames := 3, cells := 0, slots := 0, locals := 66 }) dC dI [(cA, .int)] (wX0 cA h0 q0 q1 q2 q3 q4 q5 w ce nm tl tc tw T n z wtc wia off) [.ref h0, .int (nI name)] (nI ((kx_fd (nm, tl, tc, tw, n, z) (kx_pl nm (nI name) (kx_inn nm n) n - 1)).2.2.2.2.1 - kx_inn (kx_fd (nm, tl, tc, tw, n, z) (kx_pl nm (nI name) (kx_inn nm n) n - 1)).1 (kx_fd (nm, tl, tc, tw, n, z) (kx_pl nm (nI name) (kx_inn nm n) n - 1)).2.2.2.2.1)) (wX0 cA h0 q0 q1 q2 q3 q4 q5 w ce ((kx_fd (nm, tl, tc, tw, n, z) (kx_pl nm (nI name) (kx_inn nm n) n - 1)).1) ((kx_fd (nm, tl, tc, tw, n, z) (kx_pl nm (nI name) (kx_inn nm n) n - 1)).2.1) ((kx_fd (nm, tl, tc, tw, n, z) (kx_pl nm (nI name) (kx_inn nm n) n - 1)).2.2.1) ((kx_fd (nm, tl, tc, tw, n, z) (kx_pl nm (nI name) (kx_inn nm n) n - 1)).2.2.2.1) T ((kx_fd (nm, tl, tc, tw, n, z) (kx_pl nm (nI name) (kx_inn nm n) n - 1)).2.2.2.2.1) ((kx_fd (nm, tl, tc, tw, n, z) (kx_pl nm (nI name) (kx_inn nm n) n - 1)).2.2.2.2.2) wtc wia off) := by
  refine kMi_of (cc := cX0_release) (maxL := 2) (ret := (some .int)) (by decide) rfl (Nat.le_of_ble_eq_true rfl) ?_
  intro p e s m below meth c A ls hx hb hml hr hts hown hlocks hA hP hK hD hS hl
  have hl : lv_has ls 2 [(0, .ref h0), (1, .int (nI name))] := hl
  have hple9 := kx_pl_le nm (nI name) (kx_inn nm n) n
  refine lv_aload_n hx hb dX0_release_0 rfl (lv_at hl 0 rfl) ?_
  refine lv_iload_n hx hb dX0_release_1 rfl (lv_at hl 1 rfl) ?_
  refine kv_Vv (Xr := []) (n := 1) (c_X0_needName l dC dI cA h0 q0 q1 q2 q3 q4 q5 w ce nm tl tc tw T n z wtc wia off name (by omega)) hx hb hml hown hts gX0_release_X0_needName rfl ⟨rfl, rfl⟩ (by decide +kernel) rfl ⟨Nat.le_of_ble_eq_true rfl, Nat.le_of_ble_eq_true rfl⟩ hK hP hD hS hA [0] [0, 1, 2, 3, 4, 5, 6] [] rfl rfl rfl (by decide) (by decide) (q0 := 0) rfl rfl rfl (by decide) hl.1 rfl (Nat.le_of_ble_eq_true rfl) dX0_release_2 ⟨Nat.zero_le _, Nat.zero_le _⟩ (fun H locs hP hD hS => ?_)
  have hP : va_P (dC, dI) vwCl (wX0 cA h0 q0 q1 q2 q3 q4 q5 w ce nm tl tc tw T n z wtc wia off) H := hP
  have hD : va_D A (wX0 cA h0 q0 q1 q2 q3 q4 q5 w ce nm tl tc tw T n z wtc wia off) := hD
  refine lv_aload_n hx hb dX0_release_5 rfl (lv_at hl 0 rfl) ?_
  refine kv_Vv (Xr := []) (n := 0) (c_X0_needTransaction l dC dI cA h0 q0 q1 q2 q3 q4 q5 w ce nm tl tc tw T n z wtc wia off  ho hT hT8) hx hb hml hown hts gX0_release_X0_needTransaction rfl ⟨rfl, rfl⟩ (by decide +kernel) rfl ⟨Nat.le_of_ble_eq_true rfl, Nat.le_of_ble_eq_true rfl⟩ hK hP hD hS hA [0] [0, 1, 2, 3, 4, 5, 6] [] rfl rfl rfl (by decide) (by decide) (q0 := 0) rfl rfl rfl (by decide) hl.1 rfl (Nat.le_of_ble_eq_true rfl) dX0_release_6 ⟨Nat.zero_le _, Nat.zero_le _⟩ (fun H locs hP hD hS => ?_)
  have hP : va_P (dC, dI) vwCl (wX0 cA h0 q0 q1 q2 q3 q4 q5 w ce nm tl tc tw T n z wtc wia off) H := hP
  have hD : va_D A (wX0 cA h0 q0 q1 q2 q3 q4 q5 w ce nm tl tc tw T n z wtc wia off) := hD
  refine lv_aload_n hx hb dX0_release_9 rfl (lv_at hl 0 rfl) ?_
  refine lv_aload_n hx hb dX0_release_10 rfl (lv_at hl 0 rfl) ?_
  refine lv_iload_n hx hb dX0_release_11 rfl (lv_at hl 1 rfl) ?_
  refine kv_Vi (Xr := []) (n := 1) (c_X0_needPoint l dC dI cA h0 q0 q1 q2 q3 q4 q5 w ce nm tl tc tw T n z wtc wia off name hn (by omega)) hx hb hml hown hts gX0_release_X0_needPoint rfl ⟨rfl, rfl⟩ (by decide +kernel) rfl ⟨Nat.le_of_ble_eq_true rfl, Nat.le_of_ble_eq_true rfl⟩ hK hP hD hS hA [0] [0, 1, 2, 3, 4, 5, 6] [] rfl rfl rfl (by decide) (by decide) (q0 := 0) rfl rfl rfl (by decide) hl.1 rfl (Nat.le_of_ble_eq_true rfl) dX0_release_12 ⟨Nat.zero_le _, Nat.zero_le _⟩ (fun H locs hP hD hS => ?_)
  have hP : va_P (dC, dI) vwCl (wX0 cA h0 q0 q1 q2 q3 q4 q5 w ce nm tl tc tw T n z wtc wia off) H := hP
  have hD : va_D A (wX0 cA h0 q0 q1 q2 q3 q4 q5 w ce nm tl tc tw T n z wtc wia off) := hD
  refine kv_Vv (Xr := []) (n := 1) (c_X0_foldLevel l dC dI cA h0 q0 q1 q2 q3 q4 q5 w ce nm tl tc tw T n z wtc wia off (kx_pl nm (nI name) (kx_inn nm n) n - 1) (by omega) (by omega) (by omega) (by omega)) hx hb hml hown hts gX0_release_X0_foldLevel rfl ⟨rfl, rfl⟩ (by decide +kernel) rfl ⟨Nat.le_of_ble_eq_true rfl, Nat.le_of_ble_eq_true rfl⟩ hK hP hD hS hA [0] [0, 1, 2, 3, 4, 5, 6] [] rfl rfl rfl (by decide) (by decide) (q0 := 0) rfl rfl rfl (by decide) hl.1 rfl (Nat.le_of_ble_eq_true rfl) dX0_release_15 ⟨Nat.zero_le _, Nat.zero_le _⟩ (fun H locs hP hD hS => ?_)
  have hP : va_P (dC, dI) vwCl (wX0 cA h0 q0 q1 q2 q3 q4 q5 w ce (kx_sh nm (kx_pl nm (nI name) (kx_inn nm n) n - 1) n) ((kx_fo (kx_tc tl tc (nI ((kx_pl nm (nI name) (kx_inn nm n) n - 1) - 1)) z) (nI (kx_pl nm (nI name) (kx_inn nm n) n - 1)) tl tc tw z).2.1) ((kx_fo (kx_tc tl tc (nI ((kx_pl nm (nI name) (kx_inn nm n) n - 1) - 1)) z) (nI (kx_pl nm (nI name) (kx_inn nm n) n - 1)) tl tc tw z).2.2.1) ((kx_fo (kx_tc tl tc (nI ((kx_pl nm (nI name) (kx_inn nm n) n - 1) - 1)) z) (nI (kx_pl nm (nI name) (kx_inn nm n) n - 1)) tl tc tw z).2.2.2) T (n - 1) ((kx_fo (kx_tc tl tc (nI ((kx_pl nm (nI name) (kx_inn nm n) n - 1) - 1)) z) (nI (kx_pl nm (nI name) (kx_inn nm n) n - 1)) tl tc tw z).1) wtc wia off) H := hP
  have hD : va_D A (wX0 cA h0 q0 q1 q2 q3 q4 q5 w ce (kx_sh nm (kx_pl nm (nI name) (kx_inn nm n) n - 1) n) ((kx_fo (kx_tc tl tc (nI ((kx_pl nm (nI name) (kx_inn nm n) n - 1) - 1)) z) (nI (kx_pl nm (nI name) (kx_inn nm n) n - 1)) tl tc tw z).2.1) ((kx_fo (kx_tc tl tc (nI ((kx_pl nm (nI name) (kx_inn nm n) n - 1) - 1)) z) (nI (kx_pl nm (nI name) (kx_inn nm n) n - 1)) tl tc tw z).2.2.1) ((kx_fo (kx_tc tl tc (nI ((kx_pl nm (nI name) (kx_inn nm n) n - 1) - 1)) z) (nI (kx_pl nm (nI name) (kx_inn nm n) n - 1)) tl tc tw z).2.2.2) T (n - 1) ((kx_fo (kx_tc tl tc (nI ((kx_pl nm (nI name) (kx_inn nm n) n - 1) - 1)) z) (nI (kx_pl nm (nI name) (kx_inn nm n) n - 1)) tl tc tw z).1) wtc wia off) := hD
  have hP : va_P (dC, dI) vwCl (wX0 cA h0 q0 q1 q2 q3 q4 q5 w ce ((kx_fd (nm, tl, tc, tw, n, z) (kx_pl nm (nI name) (kx_inn nm n) n - 1)).1) ((kx_fd (nm, tl, tc, tw, n, z) (kx_pl nm (nI name) (kx_inn nm n) n - 1)).2.1) ((kx_fd (nm, tl, tc, tw, n, z) (kx_pl nm (nI name) (kx_inn nm n) n - 1)).2.2.1) ((kx_fd (nm, tl, tc, tw, n, z) (kx_pl nm (nI name) (kx_inn nm n) n - 1)).2.2.2.1) T ((kx_fd (nm, tl, tc, tw, n, z) (kx_pl nm (nI name) (kx_inn nm n) n - 1)).2.2.2.2.1) ((kx_fd (nm, tl, tc, tw, n, z) (kx_pl nm (nI name) (kx_inn nm n) n - 1)).2.2.2.2.2) wtc wia off) H := by exact hP
  have hD : va_D A (wX0 cA h0 q0 q1 q2 q3 q4 q5 w ce ((kx_fd (nm, tl, tc, tw, n, z) (kx_pl nm (nI name) (kx_inn nm n) n - 1)).1) ((kx_fd (nm, tl, tc, tw, n, z) (kx_pl nm (nI name) (kx_inn nm n) n - 1)).2.1) ((kx_fd (nm, tl, tc, tw, n, z) (kx_pl nm (nI name) (kx_inn nm n) n - 1)).2.2.1) ((kx_fd (nm, tl, tc, tw, n, z) (kx_pl nm (nI name) (kx_inn nm n) n - 1)).2.2.2.1) T ((kx_fd (nm, tl, tc, tw, n, z) (kx_pl nm (nI name) (kx_inn nm n) n - 1)).2.2.2.2.1) ((kx_fd (nm, tl, tc, tw, n, z) (kx_pl nm (nI name) (kx_inn nm n) n - 1)).2.2.2.2.2) wtc wia off) := by exact hD
  have hfn : (kx_fd (nm, tl, tc, tw, n, z) (kx_pl nm (nI name) (kx_inn nm n) n - 1)).2.2.2.2.1 = n - 1 := rfl
  refine lv_aload_n hx hb dX0_release_18 rfl (lv_at hl 0 rfl) ?_
  refine kv_Vi (Xr := []) (n := 0) (c_X0_points l dC dI cA h0 q0 q1 q2 q3 q4 q5 w ce ((kx_fd (nm, tl, tc, tw, n, z) (kx_pl nm (nI name) (kx_inn nm n) n - 1)).1) ((kx_fd (nm, tl, tc, tw, n, z) (kx_pl nm (nI name) (kx_inn nm n) n - 1)).2.1) ((kx_fd (nm, tl, tc, tw, n, z) (kx_pl nm (nI name) (kx_inn nm n) n - 1)).2.2.1) ((kx_fd (nm, tl, tc, tw, n, z) (kx_pl nm (nI name) (kx_inn nm n) n - 1)).2.2.2.1) T ((kx_fd (nm, tl, tc, tw, n, z) (kx_pl nm (nI name) (kx_inn nm n) n - 1)).2.2.2.2.1) ((kx_fd (nm, tl, tc, tw, n, z) (kx_pl nm (nI name) (kx_inn nm n) n - 1)).2.2.2.2.2) wtc wia off  (by omega)) hx hb hml hown hts gX0_release_X0_points rfl ⟨rfl, rfl⟩ (by decide +kernel) rfl ⟨Nat.le_of_ble_eq_true rfl, Nat.le_of_ble_eq_true rfl⟩ hK hP hD hS hA [0] [0, 1, 2, 3, 4, 5, 6] [] rfl rfl rfl (by decide) (by decide) (q0 := 0) rfl rfl rfl (by decide) hl.1 rfl (Nat.le_of_ble_eq_true rfl) dX0_release_19 ⟨Nat.zero_le _, Nat.zero_le _⟩ (fun H locs hP hD hS => ?_)
  have hP : va_P (dC, dI) vwCl (wX0 cA h0 q0 q1 q2 q3 q4 q5 w ce ((kx_fd (nm, tl, tc, tw, n, z) (kx_pl nm (nI name) (kx_inn nm n) n - 1)).1) ((kx_fd (nm, tl, tc, tw, n, z) (kx_pl nm (nI name) (kx_inn nm n) n - 1)).2.1) ((kx_fd (nm, tl, tc, tw, n, z) (kx_pl nm (nI name) (kx_inn nm n) n - 1)).2.2.1) ((kx_fd (nm, tl, tc, tw, n, z) (kx_pl nm (nI name) (kx_inn nm n) n - 1)).2.2.2.1) T ((kx_fd (nm, tl, tc, tw, n, z) (kx_pl nm (nI name) (kx_inn nm n) n - 1)).2.2.2.2.1) ((kx_fd (nm, tl, tc, tw, n, z) (kx_pl nm (nI name) (kx_inn nm n) n - 1)).2.2.2.2.2) wtc wia off) H := hP
  have hD : va_D A (wX0 cA h0 q0 q1 q2 q3 q4 q5 w ce ((kx_fd (nm, tl, tc, tw, n, z) (kx_pl nm (nI name) (kx_inn nm n) n - 1)).1) ((kx_fd (nm, tl, tc, tw, n, z) (kx_pl nm (nI name) (kx_inn nm n) n - 1)).2.1) ((kx_fd (nm, tl, tc, tw, n, z) (kx_pl nm (nI name) (kx_inn nm n) n - 1)).2.2.1) ((kx_fd (nm, tl, tc, tw, n, z) (kx_pl nm (nI name) (kx_inn nm n) n - 1)).2.2.2.1) T ((kx_fd (nm, tl, tc, tw, n, z) (kx_pl nm (nI name) (kx_inn nm n) n - 1)).2.2.2.2.1) ((kx_fd (nm, tl, tc, tw, n, z) (kx_pl nm (nI name) (kx_inn nm n) n - 1)).2.2.2.2.2) wtc wia off) := hD
  exact kMi_ret hx hb hr hlocks hP hK hD hS dX0_release_22 rfl rfl
set_option maxHeartbeats 4000000 in
set_option maxRecDepth 100000 in
/-- NestCells.disk  -/
theorem c_X0_disk (l : Launch) (dC : Nat → ClassId) (dI : Nat → Nat → Nat) (cA : ClassId) (h0 q0 q1 q2 q3 q4 q5 : Nat) (w ce nm tl tc tw : Nat → Int32) (T n z : Nat) (wtc wia off : Int32) (i : Nat) (hi : i < 98) : kMi l yX0_disk wsX0_disk ({ frames := 1, cells := 0, slots := 0, locals := 21 }) dC dI [(cA, .int)] (wX0 cA h0 q0 q1 q2 q3 q4 q5 w ce nm tl tc tw T n z wtc wia off) [.ref h0, .int (nI i)] (w i) (wX0 cA h0 q0 q1 q2 q3 q4 q5 w ce nm tl tc tw T n z wtc wia off) := by
  refine kMi_of (cc := cX0_disk) (maxL := 2) (ret := (some .int)) (by decide) rfl (Nat.le_of_ble_eq_true rfl) ?_
  intro p e s m below meth c A ls hx hb hml hr hts hown hlocks hA hP hK hD hS hl
  have hin : ∀ w ∈ u_ws RX0 TX0 12, w ∈ wsX0_disk := by decide +kernel
  have hl : lv_has ls 2 [(0, .ref h0), (1, .int (nI i))] := hl
  refine lv_aload_n hx hb dX0_disk_0 rfl (lv_at hl 0 rfl) ?_
  refine lv_iload_n hx hb dX0_disk_1 rfl (lv_at hl 1 rfl) ?_
  refine kv_Vv (Xr := []) (n := 1) (c_X0_needWord l dC dI cA h0 q0 q1 q2 q3 q4 q5 w ce nm tl tc tw T n z wtc wia off i (by omega)) hx hb hml hown hts gX0_disk_X0_needWord rfl ⟨rfl, rfl⟩ (by decide +kernel) rfl ⟨Nat.le_of_ble_eq_true rfl, Nat.le_of_ble_eq_true rfl⟩ hK hP hD hS hA [0] [0, 1, 2, 3, 4, 5, 6] [] rfl rfl rfl (by decide) (by decide) (q0 := 0) rfl rfl rfl (by decide) hl.1 rfl (Nat.le_of_ble_eq_true rfl) dX0_disk_2 ⟨Nat.zero_le _, Nat.zero_le _⟩ (fun H locs hP hD hS => ?_)
  have hP : va_P (dC, dI) vwCl (wX0 cA h0 q0 q1 q2 q3 q4 q5 w ce nm tl tc tw T n z wtc wia off) H := hP
  have hD : va_D A (wX0 cA h0 q0 q1 q2 q3 q4 q5 w ce nm tl tc tw T n z wtc wia off) := hD
  refine lv_aload_n hx hb dX0_disk_5 rfl (lv_at hl 0 rfl) ?_
  refine va_get (D := (dC, dI)) (ci := 0) (v := .ref q0) (C := RX0) (T := TX0) (N := 12) hx hb hts hin hown hK hP 0 rfl rfl 0 (by decide) (hts (.fieldLink RX0 9 "NestCells" "words" "[I") (by decide +kernel)) (fun _ h9 => h9) rfl dX0_disk_6 ?_
  refine lv_iload_n hx hb dX0_disk_9 rfl (lv_at hl 1 rfl) ?_
  refine kv_iald hx hb hK hP 1 0 rfl rfl (by omega) (by omega) dX0_disk_10 ?_
  exact kMi_ret hx hb hr hlocks hP hK hD hS dX0_disk_11 rfl rfl
set_option maxHeartbeats 4000000 in
set_option maxRecDepth 100000 in
/-- NestCells.spoil  -/
theorem c_X0_spoil (l : Launch) (dC : Nat → ClassId) (dI : Nat → Nat → Nat) (cA : ClassId) (h0 q0 q1 q2 q3 q4 q5 : Nat) (w ce nm tl tc tw : Nat → Int32) (T n z : Nat) (wtc wia off : Int32) (i : Nat) (v : Int32) (hi : i < 98) : kMi l yX0_spoil wsX0_spoil ({ frames := 1, cells := 0, slots := 0, locals := 21 }) dC dI [(cA, .int)] (wX0 cA h0 q0 q1 q2 q3 q4 q5 w ce nm tl tc tw T n z wtc wia off) [.ref h0, .int (nI i), .int v] (w i) (wX0 cA h0 q0 q1 q2 q3 q4 q5 (upd w i v) ce nm tl tc tw T n z wtc wia off) := by
  refine kMi_of (cc := cX0_spoil) (maxL := 4) (ret := (some .int)) (by decide) rfl (Nat.le_of_ble_eq_true rfl) ?_
  intro p e s m below meth c A ls hx hb hml hr hts hown hlocks hA hP hK hD hS hl
  have hin : ∀ w ∈ u_ws RX0 TX0 12, w ∈ wsX0_spoil := by decide +kernel
  have hl : lv_has ls 4 [(0, .ref h0), (1, .int (nI i)), (2, .int v)] := hl
  refine lv_aload_n hx hb dX0_spoil_0 rfl (lv_at hl 0 rfl) ?_
  refine lv_iload_n hx hb dX0_spoil_1 rfl (lv_at hl 1 rfl) ?_
  refine kv_Vv (Xr := []) (n := 1) (c_X0_needWord l dC dI cA h0 q0 q1 q2 q3 q4 q5 w ce nm tl tc tw T n z wtc wia off i (by omega)) hx hb hml hown hts gX0_spoil_X0_needWord rfl ⟨rfl, rfl⟩ (by decide +kernel) rfl ⟨Nat.le_of_ble_eq_true rfl, Nat.le_of_ble_eq_true rfl⟩ hK hP hD hS hA [0] [0, 1, 2, 3, 4, 5, 6] [] rfl rfl rfl (by decide) (by decide) (q0 := 0) rfl rfl rfl (by decide) hl.1 rfl (Nat.le_of_ble_eq_true rfl) dX0_spoil_2 ⟨Nat.zero_le _, Nat.zero_le _⟩ (fun H locs hP hD hS => ?_)
  have hP : va_P (dC, dI) vwCl (wX0 cA h0 q0 q1 q2 q3 q4 q5 w ce nm tl tc tw T n z wtc wia off) H := hP
  have hD : va_D A (wX0 cA h0 q0 q1 q2 q3 q4 q5 w ce nm tl tc tw T n z wtc wia off) := hD
  refine lv_aload_n hx hb dX0_spoil_5 rfl (lv_at hl 0 rfl) ?_
  refine va_get (D := (dC, dI)) (ci := 0) (v := .ref q0) (C := RX0) (T := TX0) (N := 12) hx hb hts hin hown hK hP 0 rfl rfl 0 (by decide) (hts (.fieldLink RX0 9 "NestCells" "words" "[I") (by decide +kernel)) (fun _ h9 => h9) rfl dX0_spoil_6 ?_
  refine lv_iload_n hx hb dX0_spoil_9 rfl (lv_at hl 1 rfl) ?_
  refine kv_iald hx hb hK hP 1 0 rfl rfl (by omega) (by omega) dX0_spoil_10 ?_
  refine lv_istore_n (lv' := [(3, .int (w i)), (0, .ref h0), (1, .int (nI i)), (2, .int v)]) hx hb dX0_spoil_11 rfl hl (by decide) rfl (fun ls hl => ?_)
  refine lv_aload_n hx hb dX0_spoil_12 rfl (lv_at hl 1 rfl) ?_
  refine va_get (D := (dC, dI)) (ci := 0) (v := .ref q0) (C := RX0) (T := TX0) (N := 12) hx hb hts hin hown hK hP 0 rfl rfl 0 (by decide) (hts (.fieldLink RX0 9 "NestCells" "words" "[I") (by decide +kernel)) (fun _ h9 => h9) rfl dX0_spoil_13 ?_
  refine lv_iload_n hx hb dX0_spoil_16 rfl (lv_at hl 2 rfl) ?_
  refine lv_iload_n hx hb dX0_spoil_17 rfl (lv_at hl 3 rfl) ?_
  refine kv_iast hx hb hK hP hD hS 1 0 rfl rfl (by omega) (by omega) dX0_spoil_18 (fun H locs hP hD hS => ?_)
  have hP : va_P (dC, dI) vwCl (wX0 cA h0 q0 q1 q2 q3 q4 q5 (upd w i v) ce nm tl tc tw T n z wtc wia off) H := hP
  have hD : va_D A (wX0 cA h0 q0 q1 q2 q3 q4 q5 (upd w i v) ce nm tl tc tw T n z wtc wia off) := hD
  refine lv_iload_n hx hb dX0_spoil_19 rfl (lv_at hl 0 rfl) ?_
  exact kMi_ret hx hb hr hlocks hP hK hD hS dX0_spoil_20 rfl rfl
set_option maxHeartbeats 4000000 in
set_option maxRecDepth 100000 in
/-- NestCells.level_0  -/
theorem c_X0_level_0 (l : Launch) (dC : Nat → ClassId) (dI : Nat → Nat → Nat) (cA : ClassId) (h0 q0 q1 q2 q3 q4 q5 : Nat) (w ce nm tl tc tw : Nat → Int32) (T n z : Nat) (wtc wia off : Int32) (i : Nat) (hz : z ≤ 60) (hn : n ≤ 88) (hi : i < n) : kMi l yX0_level wsX0_level ({ frames := 1, cells := 0, slots := 0, locals := 23 }) dC dI [(cA, .int)] (wX0 cA h0 q0 q1 q2 q3 q4 q5 w ce nm tl tc tw T n z wtc wia off) [.ref h0, .int (nI i), .int (nI 0)] (kx_bc (kx_tc tl tc (nI i) z)) (wX0 cA h0 q0 q1 q2 q3 q4 q5 w ce nm tl tc tw T n z wtc wia off) := by
  refine kMi_of (cc := cX0_level) (maxL := 3) (ret := (some .int)) (by decide) rfl (Nat.le_of_ble_eq_true rfl) ?_
  intro p e s m below meth c A ls hx hb hml hr hts hown hlocks hA hP hK hD hS hl
  have hin : ∀ w ∈ u_ws RX0 TX0 12, w ∈ wsX0_level := by decide +kernel
  have hl : lv_has ls 3 [(0, .ref h0), (1, .int (nI i)), (2, .int (nI 0))] := hl
  refine lv_iload_n hx hb dX0_level_0 rfl (lv_at hl 1 rfl) ?_
  refine kv_if_lt (tgt := 12) hx hb (by omega) dX0_level_1 (by decide) ?_
  refine lv_iload_n hx hb dX0_level_4 rfl (lv_at hl 1 rfl) ?_
  refine lv_aload_n hx hb dX0_level_5 rfl (lv_at hl 0 rfl) ?_
  refine va_get (D := (dC, dI)) (ci := 0) (v := .int (nI n)) (C := RX0) (T := TX0) (N := 12) hx hb hts hin hown hK hP 0 rfl rfl 7 (by decide) (hts (.fieldLink RX0 71 "NestCells" "levels" "I") (by decide +kernel)) (fun _ h9 => h9) rfl dX0_level_6 ?_
  refine kv_lt (tgt := 22) hx hb (by omega) (by omega) dX0_level_9 (by decide) (fun h9_0 => ?_) (fun h9_0 => absurd h9_0 (by omega))
  refine lv_iload_n hx hb dX0_level_22 rfl (lv_at hl 2 rfl) ?_
  refine lv_lookup (off := 25) (tgt := 48) hx hb dX0_level_23 (by decide) (by decide) (by decide) ?_
  refine lv_aload_n hx hb dX0_level_48 rfl (lv_at hl 0 rfl) ?_
  refine lv_iload_n hx hb dX0_level_49 rfl (lv_at hl 1 rfl) ?_
  refine kv_Vi (Xr := []) (n := 1) (c_X0_tracedCells l dC dI cA h0 q0 q1 q2 q3 q4 q5 w ce nm tl tc tw T n z wtc wia off (nI i) (by omega)) hx hb hml hown hts gX0_level_X0_tracedCells rfl ⟨rfl, rfl⟩ (by decide +kernel) rfl ⟨Nat.le_of_ble_eq_true rfl, Nat.le_of_ble_eq_true rfl⟩ hK hP hD hS hA [0] [0, 1, 2, 3, 4, 5, 6] [] rfl rfl rfl (by decide) (by decide) (q0 := 0) rfl rfl rfl (by decide) hl.1 rfl (Nat.le_of_ble_eq_true rfl) dX0_level_50 ⟨Nat.zero_le _, Nat.zero_le _⟩ (fun H locs hP hD hS => ?_)
  have hP : va_P (dC, dI) vwCl (wX0 cA h0 q0 q1 q2 q3 q4 q5 w ce nm tl tc tw T n z wtc wia off) H := hP
  have hD : va_D A (wX0 cA h0 q0 q1 q2 q3 q4 q5 w ce nm tl tc tw T n z wtc wia off) := hD
  refine kv_Si (Xr := wX0 cA h0 q0 q1 q2 q3 q4 q5 w ce nm tl tc tw T n z wtc wia off) (n := 1) (c_J6_bitCount_0f7a4 l dC dI   (kx_tc tl tc (nI i) z) ) hx hb hml hown hts gX0_level_J6_bitCount_0f7a4 rfl ⟨rfl, rfl⟩ (by decide +kernel) rfl ⟨Nat.le_of_ble_eq_true rfl, Nat.le_of_ble_eq_true rfl⟩ hK hP hD hS hA [] [] [0, 1, 2, 3, 4, 5, 6] rfl rfl rfl (by decide) (by decide) rfl (by decide) hl.1 rfl (Nat.le_of_ble_eq_true rfl) dX0_level_53 ⟨Nat.zero_le _, Nat.zero_le _⟩ (fun H locs hP hD hS => ?_)
  have hP : va_P (dC, dI) vwCl (wX0 cA h0 q0 q1 q2 q3 q4 q5 w ce nm tl tc tw T n z wtc wia off) H := hP
  have hD : va_D A (wX0 cA h0 q0 q1 q2 q3 q4 q5 w ce nm tl tc tw T n z wtc wia off) := hD
  exact kMi_ret hx hb hr hlocks hP hK hD hS dX0_level_56 rfl rfl
set_option maxHeartbeats 4000000 in
set_option maxRecDepth 100000 in
/-- NestCells.level_1  -/
theorem c_X0_level_1 (l : Launch) (dC : Nat → ClassId) (dI : Nat → Nat → Nat) (cA : ClassId) (h0 q0 q1 q2 q3 q4 q5 : Nat) (w ce nm tl tc tw : Nat → Int32) (T n z : Nat) (wtc wia off : Int32) (i : Nat) (hn : n ≤ 88) (hi : i < n) : kMi l yX0_level wsX0_level ({ frames := 1, cells := 0, slots := 0, locals := 23 }) dC dI [(cA, .int)] (wX0 cA h0 q0 q1 q2 q3 q4 q5 w ce nm tl tc tw T n z wtc wia off) [.ref h0, .int (nI i), .int (nI 1)] (nm i) (wX0 cA h0 q0 q1 q2 q3 q4 q5 w ce nm tl tc tw T n z wtc wia off) := by
  refine kMi_of (cc := cX0_level) (maxL := 3) (ret := (some .int)) (by decide) rfl (Nat.le_of_ble_eq_true rfl) ?_
  intro p e s m below meth c A ls hx hb hml hr hts hown hlocks hA hP hK hD hS hl
  have hin : ∀ w ∈ u_ws RX0 TX0 12, w ∈ wsX0_level := by decide +kernel
  have hl : lv_has ls 3 [(0, .ref h0), (1, .int (nI i)), (2, .int (nI 1))] := hl
  refine lv_iload_n hx hb dX0_level_0 rfl (lv_at hl 1 rfl) ?_
  refine kv_if_lt (tgt := 12) hx hb (by omega) dX0_level_1 (by decide) ?_
  refine lv_iload_n hx hb dX0_level_4 rfl (lv_at hl 1 rfl) ?_
  refine lv_aload_n hx hb dX0_level_5 rfl (lv_at hl 0 rfl) ?_
  refine va_get (D := (dC, dI)) (ci := 0) (v := .int (nI n)) (C := RX0) (T := TX0) (N := 12) hx hb hts hin hown hK hP 0 rfl rfl 7 (by decide) (hts (.fieldLink RX0 71 "NestCells" "levels" "I") (by decide +kernel)) (fun _ h9 => h9) rfl dX0_level_6 ?_
  refine kv_lt (tgt := 22) hx hb (by omega) (by omega) dX0_level_9 (by decide) (fun h9_0 => ?_) (fun h9_0 => absurd h9_0 (by omega))
  refine lv_iload_n hx hb dX0_level_22 rfl (lv_at hl 2 rfl) ?_
  refine lv_lookup (off := 34) (tgt := 57) hx hb dX0_level_23 (by decide) (by decide) (by decide) ?_
  refine lv_aload_n hx hb dX0_level_57 rfl (lv_at hl 0 rfl) ?_
  refine va_get (D := (dC, dI)) (ci := 0) (v := .ref q2) (C := RX0) (T := TX0) (N := 12) hx hb hts hin hown hK hP 0 rfl rfl 2 (by decide) (hts (.fieldLink RX0 16 "NestCells" "levelName" "[I") (by decide +kernel)) (fun _ h9 => h9) rfl dX0_level_58 ?_
  refine lv_iload_n hx hb dX0_level_61 rfl (lv_at hl 1 rfl) ?_
  refine kv_iald hx hb hK hP 3 0 rfl rfl (by omega) (by omega) dX0_level_62 ?_
  exact kMi_ret hx hb hr hlocks hP hK hD hS dX0_level_63 rfl rfl
set_option maxHeartbeats 4000000 in
set_option maxRecDepth 100000 in
/-- NestCells.about_0  -/
theorem c_X0_about_0 (l : Launch) (dC : Nat → ClassId) (dI : Nat → Nat → Nat) (cA : ClassId) (h0 q0 q1 q2 q3 q4 q5 : Nat) (w ce nm tl tc tw : Nat → Int32) (T n z : Nat) (wtc wia off : Int32)   : kMi l yX0_about wsX0_about ({ frames := 2, cells := 0, slots := 0, locals := 41 }) dC dI [(cA, .int)] (wX0 cA h0 q0 q1 q2 q3 q4 q5 w ce nm tl tc tw T n z wtc wia off) [.ref h0, .int (nI 0)] (nI T) (wX0 cA h0 q0 q1 q2 q3 q4 q5 w ce nm tl tc tw T n z wtc wia off) := by
  refine kMi_of (cc := cX0_about) (maxL := 2) (ret := (some .int)) (by decide) rfl (Nat.le_of_ble_eq_true rfl) ?_
  intro p e s m below meth c A ls hx hb hml hr hts hown hlocks hA hP hK hD hS hl
  have hin : ∀ w ∈ u_ws RX0 TX0 12, w ∈ wsX0_about := by decide +kernel
  have hl : lv_has ls 2 [(0, .ref h0), (1, .int (nI 0))] := hl
  refine lv_iload_n hx hb dX0_about_0 rfl (lv_at hl 1 rfl) ?_
  refine lv_tableIn (off := 43) (tgt := 44) hx hb dX0_about_1 (by decide) (by decide) (by decide) (by decide) ?_
  refine lv_aload_n hx hb dX0_about_44 rfl (lv_at hl 0 rfl) ?_
  refine va_get (D := (dC, dI)) (ci := 0) (v := .int (nI T)) (C := RX0) (T := TX0) (N := 12) hx hb hts hin hown hK hP 0 rfl rfl 6 (by decide) (hts (.fieldLink RX0 51 "NestCells" "transactions" "I") (by decide +kernel)) (fun _ h9 => h9) rfl dX0_about_45 ?_
  exact kMi_ret hx hb hr hlocks hP hK hD hS dX0_about_48 rfl rfl
set_option maxHeartbeats 4000000 in
set_option maxRecDepth 100000 in
/-- NestCells.about_1  -/
theorem c_X0_about_1 (l : Launch) (dC : Nat → ClassId) (dI : Nat → Nat → Nat) (cA : ClassId) (h0 q0 q1 q2 q3 q4 q5 : Nat) (w ce nm tl tc tw : Nat → Int32) (T n z : Nat) (wtc wia off : Int32)   : kMi l yX0_about wsX0_about ({ frames := 2, cells := 0, slots := 0, locals := 41 }) dC dI [(cA, .int)] (wX0 cA h0 q0 q1 q2 q3 q4 q5 w ce nm tl tc tw T n z wtc wia off) [.ref h0, .int (nI 1)] (nI n) (wX0 cA h0 q0 q1 q2 q3 q4 q5 w ce nm tl tc tw T n z wtc wia off) := by
  refine kMi_of (cc := cX0_about) (maxL := 2) (ret := (some .int)) (by decide) rfl (Nat.le_of_ble_eq_true rfl) ?_
  intro p e s m below meth c A ls hx hb hml hr hts hown hlocks hA hP hK hD hS hl
  have hin : ∀ w ∈ u_ws RX0 TX0 12, w ∈ wsX0_about := by decide +kernel
  have hl : lv_has ls 2 [(0, .ref h0), (1, .int (nI 1))] := hl
  refine lv_iload_n hx hb dX0_about_0 rfl (lv_at hl 1 rfl) ?_
  refine lv_tableIn (off := 48) (tgt := 49) hx hb dX0_about_1 (by decide) (by decide) (by decide) (by decide) ?_
  refine lv_aload_n hx hb dX0_about_49 rfl (lv_at hl 0 rfl) ?_
  refine va_get (D := (dC, dI)) (ci := 0) (v := .int (nI n)) (C := RX0) (T := TX0) (N := 12) hx hb hts hin hown hK hP 0 rfl rfl 7 (by decide) (hts (.fieldLink RX0 71 "NestCells" "levels" "I") (by decide +kernel)) (fun _ h9 => h9) rfl dX0_about_50 ?_
  exact kMi_ret hx hb hr hlocks hP hK hD hS dX0_about_53 rfl rfl
set_option maxHeartbeats 4000000 in
set_option maxRecDepth 100000 in
/-- NestCells.about_2  -/
theorem c_X0_about_2 (l : Launch) (dC : Nat → ClassId) (dI : Nat → Nat → Nat) (cA : ClassId) (h0 q0 q1 q2 q3 q4 q5 : Nat) (w ce nm tl tc tw : Nat → Int32) (T n z : Nat) (wtc wia off : Int32)   : kMi l yX0_about wsX0_about ({ frames := 2, cells := 0, slots := 0, locals := 41 }) dC dI [(cA, .int)] (wX0 cA h0 q0 q1 q2 q3 q4 q5 w ce nm tl tc tw T n z wtc wia off) [.ref h0, .int (nI 2)] (nI z) (wX0 cA h0 q0 q1 q2 q3 q4 q5 w ce nm tl tc tw T n z wtc wia off) := by
  refine kMi_of (cc := cX0_about) (maxL := 2) (ret := (some .int)) (by decide) rfl (Nat.le_of_ble_eq_true rfl) ?_
  intro p e s m below meth c A ls hx hb hml hr hts hown hlocks hA hP hK hD hS hl
  have hin : ∀ w ∈ u_ws RX0 TX0 12, w ∈ wsX0_about := by decide +kernel
  have hl : lv_has ls 2 [(0, .ref h0), (1, .int (nI 2))] := hl
  refine lv_iload_n hx hb dX0_about_0 rfl (lv_at hl 1 rfl) ?_
  refine lv_tableIn (off := 53) (tgt := 54) hx hb dX0_about_1 (by decide) (by decide) (by decide) (by decide) ?_
  refine lv_aload_n hx hb dX0_about_54 rfl (lv_at hl 0 rfl) ?_
  refine va_get (D := (dC, dI)) (ci := 0) (v := .int (nI z)) (C := RX0) (T := TX0) (N := 12) hx hb hts hin hown hK hP 0 rfl rfl 8 (by decide) (hts (.fieldLink RX0 82 "NestCells" "traces" "I") (by decide +kernel)) (fun _ h9 => h9) rfl dX0_about_55 ?_
  exact kMi_ret hx hb hr hlocks hP hK hD hS dX0_about_58 rfl rfl
set_option maxHeartbeats 4000000 in
set_option maxRecDepth 100000 in
/-- NestCells.about_3  -/
theorem c_X0_about_3 (l : Launch) (dC : Nat → ClassId) (dI : Nat → Nat → Nat) (cA : ClassId) (h0 q0 q1 q2 q3 q4 q5 : Nat) (w ce nm tl tc tw : Nat → Int32) (T n z : Nat) (wtc wia off : Int32)   : kMi l yX0_about wsX0_about ({ frames := 2, cells := 0, slots := 0, locals := 41 }) dC dI [(cA, .int)] (wX0 cA h0 q0 q1 q2 q3 q4 q5 w ce nm tl tc tw T n z wtc wia off) [.ref h0, .int (nI 3)] wtc (wX0 cA h0 q0 q1 q2 q3 q4 q5 w ce nm tl tc tw T n z wtc wia off) := by
  refine kMi_of (cc := cX0_about) (maxL := 2) (ret := (some .int)) (by decide) rfl (Nat.le_of_ble_eq_true rfl) ?_
  intro p e s m below meth c A ls hx hb hml hr hts hown hlocks hA hP hK hD hS hl
  have hin : ∀ w ∈ u_ws RX0 TX0 12, w ∈ wsX0_about := by decide +kernel
  have hl : lv_has ls 2 [(0, .ref h0), (1, .int (nI 3))] := hl
  refine lv_iload_n hx hb dX0_about_0 rfl (lv_at hl 1 rfl) ?_
  refine lv_tableIn (off := 58) (tgt := 59) hx hb dX0_about_1 (by decide) (by decide) (by decide) (by decide) ?_
  refine lv_aload_n hx hb dX0_about_59 rfl (lv_at hl 0 rfl) ?_
  refine va_get (D := (dC, dI)) (ci := 0) (v := .int wtc) (C := RX0) (T := TX0) (N := 12) hx hb hts hin hown hK hP 0 rfl rfl 9 (by decide) (hts (.fieldLink RX0 37 "NestCells" "writesTillCrash" "I") (by decide +kernel)) (fun _ h9 => h9) rfl dX0_about_60 ?_
  exact kMi_ret hx hb hr hlocks hP hK hD hS dX0_about_63 rfl rfl
set_option maxHeartbeats 4000000 in
set_option maxRecDepth 100000 in
/-- NestCells.about_4  -/
theorem c_X0_about_4 (l : Launch) (dC : Nat → ClassId) (dI : Nat → Nat → Nat) (cA : ClassId) (h0 q0 q1 q2 q3 q4 q5 : Nat) (w ce nm tl tc tw : Nat → Int32) (T n z : Nat) (wtc wia off : Int32)   : kMi l yX0_about wsX0_about ({ frames := 2, cells := 0, slots := 0, locals := 41 }) dC dI [(cA, .int)] (wX0 cA h0 q0 q1 q2 q3 q4 q5 w ce nm tl tc tw T n z wtc wia off) [.ref h0, .int (nI 4)] wia (wX0 cA h0 q0 q1 q2 q3 q4 q5 w ce nm tl tc tw T n z wtc wia off) := by
  refine kMi_of (cc := cX0_about) (maxL := 2) (ret := (some .int)) (by decide) rfl (Nat.le_of_ble_eq_true rfl) ?_
  intro p e s m below meth c A ls hx hb hml hr hts hown hlocks hA hP hK hD hS hl
  have hin : ∀ w ∈ u_ws RX0 TX0 12, w ∈ wsX0_about := by decide +kernel
  have hl : lv_has ls 2 [(0, .ref h0), (1, .int (nI 4))] := hl
  refine lv_iload_n hx hb dX0_about_0 rfl (lv_at hl 1 rfl) ?_
  refine lv_tableIn (off := 63) (tgt := 64) hx hb dX0_about_1 (by decide) (by decide) (by decide) (by decide) ?_
  refine lv_aload_n hx hb dX0_about_64 rfl (lv_at hl 0 rfl) ?_
  refine va_get (D := (dC, dI)) (ci := 0) (v := .int wia) (C := RX0) (T := TX0) (N := 12) hx hb hts hin hown hK hP 0 rfl rfl 10 (by decide) (hts (.fieldLink RX0 41 "NestCells" "writesInAll" "I") (by decide +kernel)) (fun _ h9 => h9) rfl dX0_about_65 ?_
  exact kMi_ret hx hb hr hlocks hP hK hD hS dX0_about_68 rfl rfl
set_option maxHeartbeats 4000000 in
set_option maxRecDepth 100000 in
/-- NestCells.about_5  -/
theorem c_X0_about_5 (l : Launch) (dC : Nat → ClassId) (dI : Nat → Nat → Nat) (cA : ClassId) (h0 q0 q1 q2 q3 q4 q5 : Nat) (w ce nm tl tc tw : Nat → Int32) (T n z : Nat) (wtc wia off : Int32)   : kMi l yX0_about wsX0_about ({ frames := 2, cells := 0, slots := 0, locals := 41 }) dC dI [(cA, .int)] (wX0 cA h0 q0 q1 q2 q3 q4 q5 w ce nm tl tc tw T n z wtc wia off) [.ref h0, .int (nI 5)] (if off = 0 then nI 0 else nI 1) (wX0 cA h0 q0 q1 q2 q3 q4 q5 w ce nm tl tc tw T n z wtc wia off) := by
  refine kMi_of (cc := cX0_about) (maxL := 2) (ret := (some .int)) (by decide) rfl (Nat.le_of_ble_eq_true rfl) ?_
  intro p e s m below meth c A ls hx hb hml hr hts hown hlocks hA hP hK hD hS hl
  have hin : ∀ w ∈ u_ws RX0 TX0 12, w ∈ wsX0_about := by decide +kernel
  have hl : lv_has ls 2 [(0, .ref h0), (1, .int (nI 5))] := hl
  refine lv_iload_n hx hb dX0_about_0 rfl (lv_at hl 1 rfl) ?_
  refine lv_tableIn (off := 68) (tgt := 69) hx hb dX0_about_1 (by decide) (by decide) (by decide) (by decide) ?_
  refine lv_aload_n hx hb dX0_about_69 rfl (lv_at hl 0 rfl) ?_
  refine va_get (D := (dC, dI)) (ci := 0) (v := .int off) (C := RX0) (T := TX0) (N := 12) hx hb hts hin hown hK hP 0 rfl rfl 11 (by decide) (hts (.fieldLink RX0 44 "NestCells" "off" "Z") (by decide +kernel)) (fun _ h9 => h9) rfl dX0_about_70 ?_
  refine lv_if_eq (tgt := 80) hx hb dX0_about_73 (by decide) (fun h73_0 => ?_) (fun h73_0 => ?_)
  · skip
    refine lv_iconst (v := (nI 0)) hx hb dX0_about_80 (by decide) ?_
    exact kMi_ret hx hb hr hlocks hP hK hD hS dX0_about_81 (by simp [h73_0]) rfl
  · skip
    refine lv_iconst (v := (nI 1)) hx hb dX0_about_76 (by decide) ?_
    refine lv_goto (tgt := 81) hx hb dX0_about_77 (by decide) ?_
    exact kMi_ret hx hb hr hlocks hP hK hD hS dX0_about_81 (by simp [h73_0]) rfl
set_option maxHeartbeats 4000000 in
set_option maxRecDepth 100000 in
/-- NestCells.about_6  -/
theorem c_X0_about_6 (l : Launch) (dC : Nat → ClassId) (dI : Nat → Nat → Nat) (cA : ClassId) (h0 q0 q1 q2 q3 q4 q5 : Nat) (w ce nm tl tc tw : Nat → Int32) (T n z : Nat) (wtc wia off : Int32)  (hn : n ≤ 88) : kMi l yX0_about wsX0_about ({ frames := 2, cells := 0, slots := 0, locals := 41 }) dC dI [(cA, .int)] (wX0 cA h0 q0 q1 q2 q3 q4 q5 w ce nm tl tc tw T n z wtc wia off) [.ref h0, .int (nI 6)] (nI (n - kx_inn nm n)) (wX0 cA h0 q0 q1 q2 q3 q4 q5 w ce nm tl tc tw T n z wtc wia off) := by
  refine kMi_of (cc := cX0_about) (maxL := 2) (ret := (some .int)) (by decide) rfl (Nat.le_of_ble_eq_true rfl) ?_
  intro p e s m below meth c A ls hx hb hml hr hts hown hlocks hA hP hK hD hS hl
  have hin : ∀ w ∈ u_ws RX0 TX0 12, w ∈ wsX0_about := by decide +kernel
  have hl : lv_has ls 2 [(0, .ref h0), (1, .int (nI 6))] := hl
  refine lv_iload_n hx hb dX0_about_0 rfl (lv_at hl 1 rfl) ?_
  refine lv_tableIn (off := 81) (tgt := 82) hx hb dX0_about_1 (by decide) (by decide) (by decide) (by decide) ?_
  refine lv_aload_n hx hb dX0_about_82 rfl (lv_at hl 0 rfl) ?_
  refine kv_Vi (Xr := []) (n := 0) (c_X0_points l dC dI cA h0 q0 q1 q2 q3 q4 q5 w ce nm tl tc tw T n z wtc wia off  (by omega)) hx hb hml hown hts gX0_about_X0_points rfl ⟨rfl, rfl⟩ (by decide +kernel) rfl ⟨Nat.le_of_ble_eq_true rfl, Nat.le_of_ble_eq_true rfl⟩ hK hP hD hS hA [0] [0, 1, 2, 3, 4, 5, 6] [] rfl rfl rfl (by decide) (by decide) (q0 := 0) rfl rfl rfl (by decide) hl.1 rfl (Nat.le_of_ble_eq_true rfl) dX0_about_83 ⟨Nat.zero_le _, Nat.zero_le _⟩ (fun H locs hP hD hS => ?_)
  have hP : va_P (dC, dI) vwCl (wX0 cA h0 q0 q1 q2 q3 q4 q5 w ce nm tl tc tw T n z wtc wia off) H := hP
  have hD : va_D A (wX0 cA h0 q0 q1 q2 q3 q4 q5 w ce nm tl tc tw T n z wtc wia off) := hD
  exact kMi_ret hx hb hr hlocks hP hK hD hS dX0_about_86 rfl rfl
