theorem ky_badS : ∀ w ∈ (vx_atS RX0 58 kISE kNm).filter (fun w => !goodWord w), w ∈ kBad kISE := by decide +kernel
theorem ky_badA : ∀ w ∈ (vx_atS RX0 135 kIAE kNm).filter (fun w => !goodWord w), w ∈ kBad kIAE := by decide +kernel
theorem ky_okS : ∀ w ∈ Cond.classLink RX0 54 kISE :: Cond.initialized kISE :: vx_atS RX0 58 kISE kNm, vx_ot w = true := by decide +kernel
theorem ky_okA : ∀ w ∈ Cond.classLink RX0 131 kIAE :: Cond.initialized kIAE :: vx_atS RX0 135 kIAE kNm, vx_ot w = true := by decide +kernel
set_option maxHeartbeats 4000000 in
set_option maxRecDepth 100000 in
theorem c_X0_needPower_x (l : Launch) (hl0 : l.stackTraces = false) (dC : Nat → ClassId) (dI : Nat → Nat → Nat) (cA : ClassId) (h0 q0 q1 q2 q3 q4 q5 : Nat) (w ce nm tl tc tw : Nat → Int32) (T n z : Nat) (wtc wia off : Int32)  (ho : ¬ off = 0) : kMx l yX0_needPower wsX0_needPower ({ frames := 6, cells := 1, slots := 6, locals := 90 }) dC dI [(cA, .int)] (wX0 cA h0 q0 q1 q2 q3 q4 q5 w ce nm tl tc tw T n z wtc wia off) [.ref h0] kISE := by
  refine kMx_of (cc := cX0_needPower) (maxL := 1) (ret := none) (by decide) rfl (Nat.le_of_ble_eq_true rfl) ?_
  intro p e s m below meth c A ls hx hb hml hr hts hown hlocks hA hP hK hD hS hZ hxt hl
  have hin : ∀ w ∈ u_ws RX0 TX0 12, w ∈ wsX0_needPower := by decide +kernel
  have hl : lv_has ls 1 [(0, .ref h0)] := hl
  refine lv_aload_n hx hb dX0_needPower_0 rfl (lv_at hl 0 rfl) ?_
  refine va_get (D := (dC, dI)) (ci := 0) (v := .int off) (C := RX0) (T := TX0) (N := 12) hx hb hts hin hown hK hP 0 rfl rfl 11 (by decide) (hts (.fieldLink RX0 44 "NestCells" "off" "Z") (by decide +kernel)) (fun _ h9 => h9) rfl dX0_needPower_1 ?_
  refine lv_if_eq (tgt := 17) hx hb dX0_needPower_4 (by decide) (fun h4_0 => absurd h4_0 ho) (fun h4_0 => ?_)
  exact kx_throw (text := "the power is off") (ik := 54) (is := 145) (ic := 58) hx hb hl0 hown hml (by decide +kernel) (hts (.classLink RX0 54 kISE) (by decide +kernel)) (hts (.initialized kISE) (by decide +kernel)) (fun w hw => hts w (by first | exact List.mem_cons_of_mem _ (List.mem_append_right _ hw) | exact List.mem_cons_of_mem _ (List.mem_append_left _ (List.mem_append_right _ hw)))) ky_badS (Or.inl rfl) ky_okS (by decide +kernel) hZ hP hK hD hS hxt hlocks hl.1 dX0_needPower_7 dX0_needPower_10 dX0_needPower_11 dX0_needPower_13 dX0_needPower_16 ⟨Nat.le_of_ble_eq_true rfl, Nat.le_of_ble_eq_true rfl, Nat.le_of_ble_eq_true rfl, Nat.le_of_ble_eq_true rfl⟩
set_option maxHeartbeats 4000000 in
set_option maxRecDepth 100000 in
theorem c_X0_needTransaction_x1 (l : Launch) (hl0 : l.stackTraces = false) (dC : Nat → ClassId) (dI : Nat → Nat → Nat) (cA : ClassId) (h0 q0 q1 q2 q3 q4 q5 : Nat) (w ce nm tl tc tw : Nat → Int32) (T n z : Nat) (wtc wia off : Int32)  (ho : ¬ off = 0) : kMx l yX0_needTransaction wsX0_needTransaction ({ frames := 7, cells := 1, slots := 6, locals := 110 }) dC dI [(cA, .int)] (wX0 cA h0 q0 q1 q2 q3 q4 q5 w ce nm tl tc tw T n z wtc wia off) [.ref h0] kISE := by
  refine kMx_of (cc := cX0_needTransaction) (maxL := 1) (ret := none) (by decide) rfl (Nat.le_of_ble_eq_true rfl) ?_
  intro p e s m below meth c A ls hx hb hml hr hts hown hlocks hA hP hK hD hS hZ hxt hl
  have hin : ∀ w ∈ u_ws RX0 TX0 12, w ∈ wsX0_needTransaction := by decide +kernel
  have hl : lv_has ls 1 [(0, .ref h0)] := hl
  refine lv_aload_n hx hb dX0_needTransaction_0 rfl (lv_at hl 0 rfl) ?_
  exact kx_thru (n := 0) (c_X0_needPower_x l hl0 dC dI cA h0 q0 q1 q2 q3 q4 q5 w ce nm tl tc tw T n z wtc wia off  ho) hx hb hml hown hts gX0_needTransaction_X0_needPower rfl ⟨rfl, rfl⟩ (by decide +kernel) rfl ⟨Nat.le_of_ble_eq_true rfl, Nat.le_of_ble_eq_true rfl, Nat.le_of_ble_eq_true rfl, Nat.le_of_ble_eq_true rfl⟩ hK hP hD hS hA hZ hxt hlocks [0, 1, 2, 3, 4, 5, 6] rfl (q0 := 0) rfl rfl hl.1 rfl (Nat.le_of_ble_eq_true rfl) dX0_needTransaction_1
set_option maxHeartbeats 4000000 in
set_option maxRecDepth 100000 in
theorem c_X0_needTransaction_x2 (l : Launch) (hl0 : l.stackTraces = false) (dC : Nat → ClassId) (dI : Nat → Nat → Nat) (cA : ClassId) (h0 q0 q1 q2 q3 q4 q5 : Nat) (w ce nm tl tc tw : Nat → Int32) (T n z : Nat) (wtc wia off : Int32)  (ho : off = 0) (hT : T = 0) : kMx l yX0_needTransaction wsX0_needTransaction ({ frames := 7, cells := 1, slots := 6, locals := 110 }) dC dI [(cA, .int)] (wX0 cA h0 q0 q1 q2 q3 q4 q5 w ce nm tl tc tw T n z wtc wia off) [.ref h0] kISE := by
  refine kMx_of (cc := cX0_needTransaction) (maxL := 1) (ret := none) (by decide) rfl (Nat.le_of_ble_eq_true rfl) ?_
  intro p e s m below meth c A ls hx hb hml hr hts hown hlocks hA hP hK hD hS hZ hxt hl
  have hin : ∀ w ∈ u_ws RX0 TX0 12, w ∈ wsX0_needTransaction := by decide +kernel
  have hl : lv_has ls 1 [(0, .ref h0)] := hl
  refine lv_aload_n hx hb dX0_needTransaction_0 rfl (lv_at hl 0 rfl) ?_
  refine kv_Vv (Xr := []) (n := 0) (c_X0_needPower l dC dI cA h0 q0 q1 q2 q3 q4 q5 w ce nm tl tc tw T n z wtc wia off  ho) hx hb hml hown hts gX0_needTransaction_X0_needPower rfl ⟨rfl, rfl⟩ (by decide +kernel) rfl ⟨Nat.le_of_ble_eq_true rfl, Nat.le_of_ble_eq_true rfl⟩ hK hP hD hS hA [0] [0, 1, 2, 3, 4, 5, 6] [] rfl rfl rfl (by decide) (by decide) (q0 := 0) rfl rfl rfl (by decide) hl.1 rfl (Nat.le_of_ble_eq_true rfl) dX0_needTransaction_1 ⟨Nat.zero_le _, Nat.zero_le _⟩ (fun H locs hP hD hS => ?_)
  have hP : va_P (dC, dI) vwCl (wX0 cA h0 q0 q1 q2 q3 q4 q5 w ce nm tl tc tw T n z wtc wia off) H := hP
  have hD : va_D A (wX0 cA h0 q0 q1 q2 q3 q4 q5 w ce nm tl tc tw T n z wtc wia off) := hD
  refine lv_aload_n hx hb dX0_needTransaction_4 rfl (lv_at hl 0 rfl) ?_
  refine va_get (D := (dC, dI)) (ci := 0) (v := .int (nI T)) (C := RX0) (T := TX0) (N := 12) hx hb hts hin hown hK hP 0 rfl rfl 6 (by decide) (hts (.fieldLink RX0 51 "NestCells" "transactions" "I") (by decide +kernel)) (fun _ h9 => h9) rfl dX0_needTransaction_5 ?_
  refine kv_if_ne (tgt := 21) hx hb (by omega) dX0_needTransaction_8 (by decide) (fun h8_0 => absurd h8_0 (by omega)) (fun h8_0 => ?_)
  exact kx_throw (text := "there is no transaction") (ik := 54) (is := 147) (ic := 58) hx hb hl0 hown hml (by decide +kernel) (hts (.classLink RX0 54 kISE) (by decide +kernel)) (hts (.initialized kISE) (by decide +kernel)) (fun w hw => hts w (by first | exact List.mem_cons_of_mem _ (List.mem_append_right _ hw) | exact List.mem_cons_of_mem _ (List.mem_append_left _ (List.mem_append_right _ hw)))) ky_badS (Or.inl rfl) ky_okS (by decide +kernel) hZ hP hK hD hS hxt hlocks hl.1 dX0_needTransaction_11 dX0_needTransaction_14 dX0_needTransaction_15 dX0_needTransaction_17 dX0_needTransaction_20 ⟨Nat.le_of_ble_eq_true rfl, Nat.le_of_ble_eq_true rfl, Nat.le_of_ble_eq_true rfl, Nat.le_of_ble_eq_true rfl⟩
theorem c_X0_needTransaction_x (l : Launch) (hl0 : l.stackTraces = false) (dC : Nat → ClassId) (dI : Nat → Nat → Nat) (cA : ClassId) (h0 q0 q1 q2 q3 q4 q5 : Nat) (w ce nm tl tc tw : Nat → Int32) (T n z : Nat) (wtc wia off : Int32)  (hx9 : ¬ off = 0 ∨ T = 0) : kMx l yX0_needTransaction wsX0_needTransaction ({ frames := 7, cells := 1, slots := 6, locals := 110 }) dC dI [(cA, .int)] (wX0 cA h0 q0 q1 q2 q3 q4 q5 w ce nm tl tc tw T n z wtc wia off) [.ref h0] kISE := by
  by_cases ho : off = 0
  · exact c_X0_needTransaction_x2 l hl0 dC dI cA h0 q0 q1 q2 q3 q4 q5 w ce nm tl tc tw T n z wtc wia off ho (hx9.resolve_left (fun q => q ho))
  · exact c_X0_needTransaction_x1 l hl0 dC dI cA h0 q0 q1 q2 q3 q4 q5 w ce nm tl tc tw T n z wtc wia off ho
set_option maxHeartbeats 4000000 in
set_option maxRecDepth 100000 in
theorem c_X0_needCell_x (l : Launch) (hl0 : l.stackTraces = false) (dC : Nat → ClassId) (dI : Nat → Nat → Nat) (cA : ClassId) (h0 q0 q1 q2 q3 q4 q5 : Nat) (w ce nm tl tc tw : Nat → Int32) (T n z : Nat) (wtc wia off : Int32) (cell : Int32) (hc : kx_isCell cell = 0) : kMx l yX0_needCell wsX0_needCell ({ frames := 6, cells := 1, slots := 6, locals := 90 }) dC dI [(cA, .int)] (wX0 cA h0 q0 q1 q2 q3 q4 q5 w ce nm tl tc tw T n z wtc wia off) [.ref h0, .int cell] kIAE := by
  refine kMx_of (cc := cX0_needCell) (maxL := 2) (ret := none) (by decide) rfl (Nat.le_of_ble_eq_true rfl) ?_
  intro p e s m below meth c A ls hx hb hml hr hts hown hlocks hA hP hK hD hS hZ hxt hl
  have hl : lv_has ls 2 [(0, .ref h0), (1, .int cell)] := hl
  refine lv_iload_n hx hb dX0_needCell_0 rfl (lv_at hl 1 rfl) ?_
  refine kv_Si (Xr := wX0 cA h0 q0 q1 q2 q3 q4 q5 w ce nm tl tc tw T n z wtc wia off) (n := 1) (c_X0_isCell l dC dI   cell ) hx hb hml hown hts gX0_needCell_X0_isCell rfl ⟨rfl, rfl⟩ (by decide +kernel) rfl ⟨Nat.le_of_ble_eq_true rfl, Nat.le_of_ble_eq_true rfl⟩ hK hP hD hS hA [] [] [0, 1, 2, 3, 4, 5, 6] rfl rfl rfl (by decide) (by decide) rfl (by decide) hl.1 rfl (Nat.le_of_ble_eq_true rfl) dX0_needCell_1 ⟨Nat.zero_le _, Nat.zero_le _⟩ (fun H locs hP hD hS => ?_)
  have hP : va_P (dC, dI) vwCl (wX0 cA h0 q0 q1 q2 q3 q4 q5 w ce nm tl tc tw T n z wtc wia off) H := hP
  have hD : va_D A (wX0 cA h0 q0 q1 q2 q3 q4 q5 w ce nm tl tc tw T n z wtc wia off) := hD
  refine lv_if_ne (tgt := 17) hx hb dX0_needCell_4 (by decide) (fun h4_0 => absurd h4_0 (fun q => q hc)) (fun h4_0 => ?_)
  exact kx_throw (text := "no such cell") (ik := 131) (is := 153) (ic := 135) hx hb hl0 hown hml (by decide +kernel) (hts (.classLink RX0 131 kIAE) (by decide +kernel)) (hts (.initialized kIAE) (by decide +kernel)) (fun w hw => hts w (by first | exact List.mem_cons_of_mem _ (List.mem_append_right _ hw) | exact List.mem_cons_of_mem _ (List.mem_append_left _ (List.mem_append_right _ hw)))) ky_badA (Or.inr rfl) ky_okA (by decide +kernel) hZ hP hK hD hS hxt hlocks hl.1 dX0_needCell_7 dX0_needCell_10 dX0_needCell_11 dX0_needCell_13 dX0_needCell_16 ⟨Nat.le_of_ble_eq_true rfl, Nat.le_of_ble_eq_true rfl, Nat.le_of_ble_eq_true rfl, Nat.le_of_ble_eq_true rfl⟩
set_option maxHeartbeats 4000000 in
set_option maxRecDepth 100000 in
theorem c_X0_needWord_x (l : Launch) (hl0 : l.stackTraces = false) (dC : Nat → ClassId) (dI : Nat → Nat → Nat) (cA : ClassId) (h0 q0 q1 q2 q3 q4 q5 : Nat) (w ce nm tl tc tw : Nat → Int32) (T n z : Nat) (wtc wia off : Int32) (i : Int32) (hw : i < 0 ∨ ¬ i < nI 98) : kMx l yX0_needWord wsX0_needWord ({ frames := 6, cells := 1, slots := 6, locals := 90 }) dC dI [(cA, .int)] (wX0 cA h0 q0 q1 q2 q3 q4 q5 w ce nm tl tc tw T n z wtc wia off) [.ref h0, .int i] kIAE := by
  refine kMx_of (cc := cX0_needWord) (maxL := 2) (ret := none) (by decide) rfl (Nat.le_of_ble_eq_true rfl) ?_
  intro p e s m below meth c A ls hx hb hml hr hts hown hlocks hA hP hK hD hS hZ hxt hl
  have hl : lv_has ls 2 [(0, .ref h0), (1, .int i)] := hl
  refine lv_iload_n hx hb dX0_needWord_0 rfl (lv_at hl 1 rfl) ?_
  refine lv_if_lt (tgt := 10) hx hb dX0_needWord_1 (by decide) (fun h1_0 => ?_) (fun h1_0 => ?_)
  · skip
    exact kx_throw (text := "no such word") (ik := 131) (is := 155) (ic := 135) hx hb hl0 hown hml (by decide +kernel) (hts (.classLink RX0 131 kIAE) (by decide +kernel)) (hts (.initialized kIAE) (by decide +kernel)) (fun w hw => hts w (by first | exact List.mem_cons_of_mem _ (List.mem_append_right _ hw) | exact List.mem_cons_of_mem _ (List.mem_append_left _ (List.mem_append_right _ hw)))) ky_badA (Or.inr rfl) ky_okA (by decide +kernel) hZ hP hK hD hS hxt hlocks hl.1 dX0_needWord_10 dX0_needWord_13 dX0_needWord_14 dX0_needWord_16 dX0_needWord_19 ⟨Nat.le_of_ble_eq_true rfl, Nat.le_of_ble_eq_true rfl, Nat.le_of_ble_eq_true rfl, Nat.le_of_ble_eq_true rfl⟩
  · skip
    refine lv_iload_n hx hb dX0_needWord_4 rfl (lv_at hl 1 rfl) ?_
    refine lv_bipush (v := (nI 98)) hx hb dX0_needWord_5 (by decide) ?_
    refine lv_icmp_lt (tgt := 20) hx hb dX0_needWord_7 (by decide) (fun h7_1 => ((hw.elim h1_0 (fun q => q h7_1))).elim) (fun h7_1 => ?_)
    exact kx_throw (text := "no such word") (ik := 131) (is := 155) (ic := 135) hx hb hl0 hown hml (by decide +kernel) (hts (.classLink RX0 131 kIAE) (by decide +kernel)) (hts (.initialized kIAE) (by decide +kernel)) (fun w hw => hts w (by first | exact List.mem_cons_of_mem _ (List.mem_append_right _ hw) | exact List.mem_cons_of_mem _ (List.mem_append_left _ (List.mem_append_right _ hw)))) ky_badA (Or.inr rfl) ky_okA (by decide +kernel) hZ hP hK hD hS hxt hlocks hl.1 dX0_needWord_10 dX0_needWord_13 dX0_needWord_14 dX0_needWord_16 dX0_needWord_19 ⟨Nat.le_of_ble_eq_true rfl, Nat.le_of_ble_eq_true rfl, Nat.le_of_ble_eq_true rfl, Nat.le_of_ble_eq_true rfl⟩
set_option maxHeartbeats 4000000 in
set_option maxRecDepth 100000 in
theorem c_X0_needName_x (l : Launch) (hl0 : l.stackTraces = false) (dC : Nat → ClassId) (dI : Nat → Nat → Nat) (cA : ClassId) (h0 q0 q1 q2 q3 q4 q5 : Nat) (w ce nm tl tc tw : Nat → Int32) (T n z : Nat) (wtc wia off : Int32) (name : Int32) (hw : name < 0 ∨ ¬ name < nI 10) : kMx l yX0_needName wsX0_needName ({ frames := 6, cells := 1, slots := 6, locals := 90 }) dC dI [(cA, .int)] (wX0 cA h0 q0 q1 q2 q3 q4 q5 w ce nm tl tc tw T n z wtc wia off) [.ref h0, .int name] kIAE := by
  refine kMx_of (cc := cX0_needName) (maxL := 2) (ret := none) (by decide) rfl (Nat.le_of_ble_eq_true rfl) ?_
  intro p e s m below meth c A ls hx hb hml hr hts hown hlocks hA hP hK hD hS hZ hxt hl
  have hl : lv_has ls 2 [(0, .ref h0), (1, .int name)] := hl
  refine lv_iload_n hx hb dX0_needName_0 rfl (lv_at hl 1 rfl) ?_
  refine lv_if_lt (tgt := 10) hx hb dX0_needName_1 (by decide) (fun h1_0 => ?_) (fun h1_0 => ?_)
  · skip
    exact kx_throw (text := "no such name") (ik := 131) (is := 157) (ic := 135) hx hb hl0 hown hml (by decide +kernel) (hts (.classLink RX0 131 kIAE) (by decide +kernel)) (hts (.initialized kIAE) (by decide +kernel)) (fun w hw => hts w (by first | exact List.mem_cons_of_mem _ (List.mem_append_right _ hw) | exact List.mem_cons_of_mem _ (List.mem_append_left _ (List.mem_append_right _ hw)))) ky_badA (Or.inr rfl) ky_okA (by decide +kernel) hZ hP hK hD hS hxt hlocks hl.1 dX0_needName_10 dX0_needName_13 dX0_needName_14 dX0_needName_16 dX0_needName_19 ⟨Nat.le_of_ble_eq_true rfl, Nat.le_of_ble_eq_true rfl, Nat.le_of_ble_eq_true rfl, Nat.le_of_ble_eq_true rfl⟩
  · skip
    refine lv_iload_n hx hb dX0_needName_4 rfl (lv_at hl 1 rfl) ?_
    refine lv_bipush (v := (nI 10)) hx hb dX0_needName_5 (by decide) ?_
    refine lv_icmp_lt (tgt := 20) hx hb dX0_needName_7 (by decide) (fun h7_1 => ((hw.elim h1_0 (fun q => q h7_1))).elim) (fun h7_1 => ?_)
    exact kx_throw (text := "no such name") (ik := 131) (is := 157) (ic := 135) hx hb hl0 hown hml (by decide +kernel) (hts (.classLink RX0 131 kIAE) (by decide +kernel)) (hts (.initialized kIAE) (by decide +kernel)) (fun w hw => hts w (by first | exact List.mem_cons_of_mem _ (List.mem_append_right _ hw) | exact List.mem_cons_of_mem _ (List.mem_append_left _ (List.mem_append_right _ hw)))) ky_badA (Or.inr rfl) ky_okA (by decide +kernel) hZ hP hK hD hS hxt hlocks hl.1 dX0_needName_10 dX0_needName_13 dX0_needName_14 dX0_needName_16 dX0_needName_19 ⟨Nat.le_of_ble_eq_true rfl, Nat.le_of_ble_eq_true rfl, Nat.le_of_ble_eq_true rfl, Nat.le_of_ble_eq_true rfl⟩
set_option maxHeartbeats 4000000 in
set_option maxRecDepth 100000 in
theorem c_X0_needPoint_x (l : Launch) (hl0 : l.stackTraces = false) (dC : Nat → ClassId) (dI : Nat → Nat → Nat) (cA : ClassId) (h0 q0 q1 q2 q3 q4 q5 : Nat) (w ce nm tl tc tw : Nat → Int32) (T n z : Nat) (wtc wia off : Int32) (name : Nat) (hn : n ≤ 88) (hpl : kx_pl nm (nI name) (kx_inn nm n) n = 0) : kMx l yX0_needPoint wsX0_needPoint ({ frames := 6, cells := 1, slots := 6, locals := 90 }) dC dI [(cA, .int)] (wX0 cA h0 q0 q1 q2 q3 q4 q5 w ce nm tl tc tw T n z wtc wia off) [.ref h0, .int (nI name)] kIAE := by
  refine kMx_of (cc := cX0_needPoint) (maxL := 3) (ret := (some .int)) (by decide) rfl (Nat.le_of_ble_eq_true rfl) ?_
  intro p e s m below meth c A ls hx hb hml hr hts hown hlocks hA hP hK hD hS hZ hxt hl
  have hl : lv_has ls 3 [(0, .ref h0), (1, .int (nI name))] := hl
  refine lv_aload_n hx hb dX0_needPoint_0 rfl (lv_at hl 0 rfl) ?_
  refine lv_iload_n hx hb dX0_needPoint_1 rfl (lv_at hl 1 rfl) ?_
  refine kv_Vi (Xr := []) (n := 1) (c_X0_pointLevel l dC dI cA h0 q0 q1 q2 q3 q4 q5 w ce nm tl tc tw T n z wtc wia off (nI name) hn) hx hb hml hown hts gX0_needPoint_X0_pointLevel rfl ⟨rfl, rfl⟩ (by decide +kernel) rfl ⟨Nat.le_of_ble_eq_true rfl, Nat.le_of_ble_eq_true rfl⟩ hK hP hD hS hA [0] [0, 1, 2, 3, 4, 5, 6] [] rfl rfl rfl (by decide) (by decide) (q0 := 0) rfl rfl rfl (by decide) hl.1 rfl (Nat.le_of_ble_eq_true rfl) dX0_needPoint_2 ⟨Nat.zero_le _, Nat.zero_le _⟩ (fun H locs hP hD hS => ?_)
  have hP : va_P (dC, dI) vwCl (wX0 cA h0 q0 q1 q2 q3 q4 q5 w ce nm tl tc tw T n z wtc wia off) H := hP
  have hD : va_D A (wX0 cA h0 q0 q1 q2 q3 q4 q5 w ce nm tl tc tw T n z wtc wia off) := hD
  refine kv_top (w := .int (-1)) (by rw [hpl]; exact congrArg Value.int kv_m1) ?_
  refine lv_istore_n (lv' := [(2, .int (-1)), (0, .ref h0), (1, .int (nI name))]) hx hb dX0_needPoint_5 rfl hl (by decide) rfl (fun ls hl => ?_)
  refine lv_iload_n hx hb dX0_needPoint_6 rfl (lv_at hl 0 rfl) ?_
  refine lv_iconst (v := (-1)) hx hb dX0_needPoint_7 (by decide) ?_
  refine lv_icmp_ne (tgt := 21) hx hb dX0_needPoint_8 (by decide) (fun h8_0 => absurd h8_0 (fun q => q rfl)) (fun h8_0 => ?_)
  exact kx_throw (text := "no such point") (ik := 131) (is := 159) (ic := 135) hx hb hl0 hown hml (by decide +kernel) (hts (.classLink RX0 131 kIAE) (by decide +kernel)) (hts (.initialized kIAE) (by decide +kernel)) (fun w hw => hts w (by first | exact List.mem_cons_of_mem _ (List.mem_append_right _ hw) | exact List.mem_cons_of_mem _ (List.mem_append_left _ (List.mem_append_right _ hw)))) ky_badA (Or.inr rfl) ky_okA (by decide +kernel) hZ hP hK hD hS hxt hlocks hl.1 dX0_needPoint_11 dX0_needPoint_14 dX0_needPoint_15 dX0_needPoint_17 dX0_needPoint_20 ⟨Nat.le_of_ble_eq_true rfl, Nat.le_of_ble_eq_true rfl, Nat.le_of_ble_eq_true rfl, Nat.le_of_ble_eq_true rfl⟩
set_option maxHeartbeats 4000000 in
set_option maxRecDepth 100000 in
theorem c_X0_begin_x1 (l : Launch) (hl0 : l.stackTraces = false) (dC : Nat → ClassId) (dI : Nat → Nat → Nat) (cA : ClassId) (h0 q0 q1 q2 q3 q4 q5 : Nat) (w ce nm tl tc tw : Nat → Int32) (T n z : Nat) (wtc wia off : Int32)  (ho : ¬ off = 0) : kMx l yX0_begin wsX0_begin ({ frames := 7, cells := 1, slots := 6, locals := 110 }) dC dI [(cA, .int)] (wX0 cA h0 q0 q1 q2 q3 q4 q5 w ce nm tl tc tw T n z wtc wia off) [.ref h0] kISE := by
  refine kMx_of (cc := cX0_begin) (maxL := 1) (ret := (some .int)) (by decide) rfl (Nat.le_of_ble_eq_true rfl) ?_
  intro p e s m below meth c A ls hx hb hml hr hts hown hlocks hA hP hK hD hS hZ hxt hl
  have hin : ∀ w ∈ u_ws RX0 TX0 12, w ∈ wsX0_begin := by decide +kernel
  have hl : lv_has ls 1 [(0, .ref h0)] := hl
  refine lv_aload_n hx hb dX0_begin_0 rfl (lv_at hl 0 rfl) ?_
  exact kx_thru (n := 0) (c_X0_needPower_x l hl0 dC dI cA h0 q0 q1 q2 q3 q4 q5 w ce nm tl tc tw T n z wtc wia off  ho) hx hb hml hown hts gX0_begin_X0_needPower rfl ⟨rfl, rfl⟩ (by decide +kernel) rfl ⟨Nat.le_of_ble_eq_true rfl, Nat.le_of_ble_eq_true rfl, Nat.le_of_ble_eq_true rfl, Nat.le_of_ble_eq_true rfl⟩ hK hP hD hS hA hZ hxt hlocks [0, 1, 2, 3, 4, 5, 6] rfl (q0 := 0) rfl rfl hl.1 rfl (Nat.le_of_ble_eq_true rfl) dX0_begin_1
set_option maxHeartbeats 4000000 in
set_option maxRecDepth 100000 in
theorem c_X0_begin_x2 (l : Launch) (hl0 : l.stackTraces = false) (dC : Nat → ClassId) (dI : Nat → Nat → Nat) (cA : ClassId) (h0 q0 q1 q2 q3 q4 q5 : Nat) (w ce nm tl tc tw : Nat → Int32) (T n z : Nat) (wtc wia off : Int32)  (ho : off = 0) (hT : T = 8) : kMx l yX0_begin wsX0_begin ({ frames := 7, cells := 1, slots := 6, locals := 110 }) dC dI [(cA, .int)] (wX0 cA h0 q0 q1 q2 q3 q4 q5 w ce nm tl tc tw T n z wtc wia off) [.ref h0] kISE := by
  refine kMx_of (cc := cX0_begin) (maxL := 1) (ret := (some .int)) (by decide) rfl (Nat.le_of_ble_eq_true rfl) ?_
  intro p e s m below meth c A ls hx hb hml hr hts hown hlocks hA hP hK hD hS hZ hxt hl
  have hin : ∀ w ∈ u_ws RX0 TX0 12, w ∈ wsX0_begin := by decide +kernel
  have hl : lv_has ls 1 [(0, .ref h0)] := hl
  refine lv_aload_n hx hb dX0_begin_0 rfl (lv_at hl 0 rfl) ?_
  refine kv_Vv (Xr := []) (n := 0) (c_X0_needPower l dC dI cA h0 q0 q1 q2 q3 q4 q5 w ce nm tl tc tw T n z wtc wia off  ho) hx hb hml hown hts gX0_begin_X0_needPower rfl ⟨rfl, rfl⟩ (by decide +kernel) rfl ⟨Nat.le_of_ble_eq_true rfl, Nat.le_of_ble_eq_true rfl⟩ hK hP hD hS hA [0] [0, 1, 2, 3, 4, 5, 6] [] rfl rfl rfl (by decide) (by decide) (q0 := 0) rfl rfl rfl (by decide) hl.1 rfl (Nat.le_of_ble_eq_true rfl) dX0_begin_1 ⟨Nat.zero_le _, Nat.zero_le _⟩ (fun H locs hP hD hS => ?_)
  have hP : va_P (dC, dI) vwCl (wX0 cA h0 q0 q1 q2 q3 q4 q5 w ce nm tl tc tw T n z wtc wia off) H := hP
  have hD : va_D A (wX0 cA h0 q0 q1 q2 q3 q4 q5 w ce nm tl tc tw T n z wtc wia off) := hD
  refine lv_aload_n hx hb dX0_begin_4 rfl (lv_at hl 0 rfl) ?_
  refine va_get (D := (dC, dI)) (ci := 0) (v := .int (nI T)) (C := RX0) (T := TX0) (N := 12) hx hb hts hin hown hK hP 0 rfl rfl 6 (by decide) (hts (.fieldLink RX0 51 "NestCells" "transactions" "I") (by decide +kernel)) (fun _ h9 => h9) rfl dX0_begin_5 ?_
  refine lv_bipush (v := (nI 8)) hx hb dX0_begin_8 (by decide) ?_
  refine kv_ne (tgt := 23) hx hb (by omega) (by omega) dX0_begin_10 (by decide) (fun h10_0 => absurd h10_0 (by omega)) (fun h10_0 => ?_)
  exact kx_throw (text := "there are 8 transactions") (ik := 54) (is := 56) (ic := 58) hx hb hl0 hown hml (by decide +kernel) (hts (.classLink RX0 54 kISE) (by decide +kernel)) (hts (.initialized kISE) (by decide +kernel)) (fun w hw => hts w (by first | exact List.mem_cons_of_mem _ (List.mem_append_right _ hw) | exact List.mem_cons_of_mem _ (List.mem_append_left _ (List.mem_append_right _ hw)))) ky_badS (Or.inl rfl) ky_okS (by decide +kernel) hZ hP hK hD hS hxt hlocks hl.1 dX0_begin_13 dX0_begin_16 dX0_begin_17 dX0_begin_19 dX0_begin_22 ⟨Nat.le_of_ble_eq_true rfl, Nat.le_of_ble_eq_true rfl, Nat.le_of_ble_eq_true rfl, Nat.le_of_ble_eq_true rfl⟩
set_option maxHeartbeats 4000000 in
set_option maxRecDepth 100000 in
theorem c_X0_write_xa (l : Launch) (hl0 : l.stackTraces = false) (dC : Nat → ClassId) (dI : Nat → Nat → Nat) (cA : ClassId) (h0 q0 q1 q2 q3 q4 q5 : Nat) (w ce nm tl tc tw : Nat → Int32) (T n z : Nat) (wtc wia off : Int32) (cell : Int32) (v : Int32) (hc : kx_isCell cell = 0) : kMx l yX0_write wsX0_write ({ frames := 8, cells := 1, slots := 6, locals := 130 }) dC dI [(cA, .int)] (wX0 cA h0 q0 q1 q2 q3 q4 q5 w ce nm tl tc tw T n z wtc wia off) [.ref h0, .int cell, .int v] kIAE := by
  refine kMx_of (cc := cX0_write) (maxL := 5) (ret := (some .int)) (by decide) rfl (Nat.le_of_ble_eq_true rfl) ?_
  intro p e s m below meth c A ls hx hb hml hr hts hown hlocks hA hP hK hD hS hZ hxt hl
  have hin : ∀ w ∈ u_ws RX0 TX0 12, w ∈ wsX0_write := by decide +kernel
  have hl : lv_has ls 5 [(0, .ref h0), (1, .int cell), (2, .int v)] := hl
  refine lv_aload_n hx hb dX0_write_0 rfl (lv_at hl 0 rfl) ?_
  refine lv_iload_n hx hb dX0_write_1 rfl (lv_at hl 1 rfl) ?_
  exact kx_thru (n := 1) (c_X0_needCell_x l hl0 dC dI cA h0 q0 q1 q2 q3 q4 q5 w ce nm tl tc tw T n z wtc wia off cell hc) hx hb hml hown hts gX0_write_X0_needCell rfl ⟨rfl, rfl⟩ (by decide +kernel) rfl ⟨Nat.le_of_ble_eq_true rfl, Nat.le_of_ble_eq_true rfl, Nat.le_of_ble_eq_true rfl, Nat.le_of_ble_eq_true rfl⟩ hK hP hD hS hA hZ hxt hlocks [0, 1, 2, 3, 4, 5, 6] rfl (q0 := 0) rfl rfl hl.1 rfl (Nat.le_of_ble_eq_true rfl) dX0_write_2
set_option maxHeartbeats 4000000 in
set_option maxRecDepth 100000 in
theorem c_X0_write_xb (l : Launch) (hl0 : l.stackTraces = false) (dC : Nat → ClassId) (dI : Nat → Nat → Nat) (cA : ClassId) (h0 q0 q1 q2 q3 q4 q5 : Nat) (w ce nm tl tc tw : Nat → Int32) (T n z : Nat) (wtc wia off : Int32) (cell : Nat) (v : Int32) (hc : cell < 32) (hx9 : ¬ off = 0 ∨ T = 0) : kMx l yX0_write wsX0_write ({ frames := 8, cells := 1, slots := 6, locals := 130 }) dC dI [(cA, .int)] (wX0 cA h0 q0 q1 q2 q3 q4 q5 w ce nm tl tc tw T n z wtc wia off) [.ref h0, .int (nI cell), .int v] kISE := by
  refine kMx_of (cc := cX0_write) (maxL := 5) (ret := (some .int)) (by decide) rfl (Nat.le_of_ble_eq_true rfl) ?_
  intro p e s m below meth c A ls hx hb hml hr hts hown hlocks hA hP hK hD hS hZ hxt hl
  have hin : ∀ w ∈ u_ws RX0 TX0 12, w ∈ wsX0_write := by decide +kernel
  have hl : lv_has ls 5 [(0, .ref h0), (1, .int (nI cell)), (2, .int v)] := hl
  refine lv_aload_n hx hb dX0_write_0 rfl (lv_at hl 0 rfl) ?_
  refine lv_iload_n hx hb dX0_write_1 rfl (lv_at hl 1 rfl) ?_
  refine kv_Vv (Xr := []) (n := 1) (c_X0_needCell l dC dI cA h0 q0 q1 q2 q3 q4 q5 w ce nm tl tc tw T n z wtc wia off cell (by omega)) hx hb hml hown hts gX0_write_X0_needCell rfl ⟨rfl, rfl⟩ (by decide +kernel) rfl ⟨Nat.le_of_ble_eq_true rfl, Nat.le_of_ble_eq_true rfl⟩ hK hP hD hS hA [0] [0, 1, 2, 3, 4, 5, 6] [] rfl rfl rfl (by decide) (by decide) (q0 := 0) rfl rfl rfl (by decide) hl.1 rfl (Nat.le_of_ble_eq_true rfl) dX0_write_2 ⟨Nat.zero_le _, Nat.zero_le _⟩ (fun H locs hP hD hS => ?_)
  have hP : va_P (dC, dI) vwCl (wX0 cA h0 q0 q1 q2 q3 q4 q5 w ce nm tl tc tw T n z wtc wia off) H := hP
  have hD : va_D A (wX0 cA h0 q0 q1 q2 q3 q4 q5 w ce nm tl tc tw T n z wtc wia off) := hD
  refine lv_aload_n hx hb dX0_write_5 rfl (lv_at hl 0 rfl) ?_
  exact kx_thru (n := 0) (c_X0_needTransaction_x l hl0 dC dI cA h0 q0 q1 q2 q3 q4 q5 w ce nm tl tc tw T n z wtc wia off  hx9) hx hb hml hown hts gX0_write_X0_needTransaction rfl ⟨rfl, rfl⟩ (by decide +kernel) rfl ⟨Nat.le_of_ble_eq_true rfl, Nat.le_of_ble_eq_true rfl, Nat.le_of_ble_eq_true rfl, Nat.le_of_ble_eq_true rfl⟩ hK hP hD hS hA hZ hxt hlocks [0, 1, 2, 3, 4, 5, 6] rfl (q0 := 0) rfl rfl hl.1 rfl (Nat.le_of_ble_eq_true rfl) dX0_write_6
set_option maxHeartbeats 4000000 in
set_option maxRecDepth 100000 in
theorem c_X0_write_xc (l : Launch) (hl0 : l.stackTraces = false) (dC : Nat → ClassId) (dI : Nat → Nat → Nat) (cA : ClassId) (h0 q0 q1 q2 q3 q4 q5 : Nat) (w ce nm tl tc tw : Nat → Int32) (T n z : Nat) (wtc wia off : Int32) (cell : Nat) (v : Int32) (hc : cell < 32) (ho : off = 0) (hT : 0 < T) (hT8 : T ≤ 8) (hz : z ≤ 60) (hn1 : 1 ≤ n) (hn : n ≤ 88) (hh : kx_holds (kx_tc tl tc (nI (n - 1)) z) (nI cell) = 0) (hz2 : z = 60) : kMx l yX0_write wsX0_write ({ frames := 8, cells := 1, slots := 6, locals := 130 }) dC dI [(cA, .int)] (wX0 cA h0 q0 q1 q2 q3 q4 q5 w ce nm tl tc tw T n z wtc wia off) [.ref h0, .int (nI cell), .int v] kISE := by
  refine kMx_of (cc := cX0_write) (maxL := 5) (ret := (some .int)) (by decide) rfl (Nat.le_of_ble_eq_true rfl) ?_
  intro p e s m below meth c A ls hx hb hml hr hts hown hlocks hA hP hK hD hS hZ hxt hl
  have hin : ∀ w ∈ u_ws RX0 TX0 12, w ∈ wsX0_write := by decide +kernel
  have hl : lv_has ls 5 [(0, .ref h0), (1, .int (nI cell)), (2, .int v)] := hl
  refine lv_aload_n hx hb dX0_write_0 rfl (lv_at hl 0 rfl) ?_
  refine lv_iload_n hx hb dX0_write_1 rfl (lv_at hl 1 rfl) ?_
  refine kv_Vv (Xr := []) (n := 1) (c_X0_needCell l dC dI cA h0 q0 q1 q2 q3 q4 q5 w ce nm tl tc tw T n z wtc wia off cell (by omega)) hx hb hml hown hts gX0_write_X0_needCell rfl ⟨rfl, rfl⟩ (by decide +kernel) rfl ⟨Nat.le_of_ble_eq_true rfl, Nat.le_of_ble_eq_true rfl⟩ hK hP hD hS hA [0] [0, 1, 2, 3, 4, 5, 6] [] rfl rfl rfl (by decide) (by decide) (q0 := 0) rfl rfl rfl (by decide) hl.1 rfl (Nat.le_of_ble_eq_true rfl) dX0_write_2 ⟨Nat.zero_le _, Nat.zero_le _⟩ (fun H locs hP hD hS => ?_)
  have hP : va_P (dC, dI) vwCl (wX0 cA h0 q0 q1 q2 q3 q4 q5 w ce nm tl tc tw T n z wtc wia off) H := hP
  have hD : va_D A (wX0 cA h0 q0 q1 q2 q3 q4 q5 w ce nm tl tc tw T n z wtc wia off) := hD
  refine lv_aload_n hx hb dX0_write_5 rfl (lv_at hl 0 rfl) ?_
  refine kv_Vv (Xr := []) (n := 0) (c_X0_needTransaction l dC dI cA h0 q0 q1 q2 q3 q4 q5 w ce nm tl tc tw T n z wtc wia off  ho hT hT8) hx hb hml hown hts gX0_write_X0_needTransaction rfl ⟨rfl, rfl⟩ (by decide +kernel) rfl ⟨Nat.le_of_ble_eq_true rfl, Nat.le_of_ble_eq_true rfl⟩ hK hP hD hS hA [0] [0, 1, 2, 3, 4, 5, 6] [] rfl rfl rfl (by decide) (by decide) (q0 := 0) rfl rfl rfl (by decide) hl.1 rfl (Nat.le_of_ble_eq_true rfl) dX0_write_6 ⟨Nat.zero_le _, Nat.zero_le _⟩ (fun H locs hP hD hS => ?_)
  have hP : va_P (dC, dI) vwCl (wX0 cA h0 q0 q1 q2 q3 q4 q5 w ce nm tl tc tw T n z wtc wia off) H := hP
  have hD : va_D A (wX0 cA h0 q0 q1 q2 q3 q4 q5 w ce nm tl tc tw T n z wtc wia off) := hD
  refine lv_aload_n hx hb dX0_write_9 rfl (lv_at hl 0 rfl) ?_
  refine va_get (D := (dC, dI)) (ci := 0) (v := .int (nI n)) (C := RX0) (T := TX0) (N := 12) hx hb hts hin hown hK hP 0 rfl rfl 7 (by decide) (hts (.fieldLink RX0 71 "NestCells" "levels" "I") (by decide +kernel)) (fun _ h9 => h9) rfl dX0_write_10 ?_
  refine lv_iconst (v := (nI 1)) hx hb dX0_write_13 (by decide) ?_
  refine kv_subE (d := n - 1) hx hb (by omega) dX0_write_14 ?_
  refine lv_istore_n (lv' := [(3, .int (nI (n - 1))), (0, .ref h0), (1, .int (nI cell)), (2, .int v)]) hx hb dX0_write_15 rfl hl (by decide) rfl (fun ls hl => ?_)
  refine lv_aload_n hx hb dX0_write_16 rfl (lv_at hl 1 rfl) ?_
  refine lv_iload_n hx hb dX0_write_17 rfl (lv_at hl 0 rfl) ?_
  refine kv_Vi (Xr := []) (n := 1) (c_X0_tracedCells l dC dI cA h0 q0 q1 q2 q3 q4 q5 w ce nm tl tc tw T n z wtc wia off (nI (n - 1)) (by omega)) hx hb hml hown hts gX0_write_X0_tracedCells rfl ⟨rfl, rfl⟩ (by decide +kernel) rfl ⟨Nat.le_of_ble_eq_true rfl, Nat.le_of_ble_eq_true rfl⟩ hK hP hD hS hA [0] [0, 1, 2, 3, 4, 5, 6] [] rfl rfl rfl (by decide) (by decide) (q0 := 0) rfl rfl rfl (by decide) hl.1 rfl (Nat.le_of_ble_eq_true rfl) dX0_write_18 ⟨Nat.zero_le _, Nat.zero_le _⟩ (fun H locs hP hD hS => ?_)
  have hP : va_P (dC, dI) vwCl (wX0 cA h0 q0 q1 q2 q3 q4 q5 w ce nm tl tc tw T n z wtc wia off) H := hP
  have hD : va_D A (wX0 cA h0 q0 q1 q2 q3 q4 q5 w ce nm tl tc tw T n z wtc wia off) := hD
  refine lv_iload_n hx hb dX0_write_21 rfl (lv_at hl 2 rfl) ?_
  refine kv_Si (Xr := wX0 cA h0 q0 q1 q2 q3 q4 q5 w ce nm tl tc tw T n z wtc wia off) (n := 2) (c_X0_holds l dC dI   (kx_tc tl tc (nI (n - 1)) z) (nI cell) ) hx hb hml hown hts gX0_write_X0_holds rfl ⟨rfl, rfl⟩ (by decide +kernel) rfl ⟨Nat.le_of_ble_eq_true rfl, Nat.le_of_ble_eq_true rfl⟩ hK hP hD hS hA [] [] [0, 1, 2, 3, 4, 5, 6] rfl rfl rfl (by decide) (by decide) rfl (by decide) hl.1 rfl (Nat.le_of_ble_eq_true rfl) dX0_write_22 ⟨Nat.zero_le _, Nat.zero_le _⟩ (fun H locs hP hD hS => ?_)
  have hP : va_P (dC, dI) vwCl (wX0 cA h0 q0 q1 q2 q3 q4 q5 w ce nm tl tc tw T n z wtc wia off) H := hP
  have hD : va_D A (wX0 cA h0 q0 q1 q2 q3 q4 q5 w ce nm tl tc tw T n z wtc wia off) := hD
  refine lv_if_ne (tgt := 53) hx hb dX0_write_25 (by decide) (fun h25_0 => absurd h25_0 (fun q => q hh)) (fun h25_0 => ?_)
  refine lv_aload_n hx hb dX0_write_28 rfl (lv_at hl 1 rfl) ?_
  refine va_get (D := (dC, dI)) (ci := 0) (v := .int (nI z)) (C := RX0) (T := TX0) (N := 12) hx hb hts hin hown hK hP 0 rfl rfl 8 (by decide) (hts (.fieldLink RX0 82 "NestCells" "traces" "I") (by decide +kernel)) (fun _ h9 => h9) rfl dX0_write_29 ?_
  refine lv_bipush (v := (nI 60)) hx hb dX0_write_32 (by decide) ?_
  refine kv_ne (tgt := 47) hx hb (by omega) (by omega) dX0_write_34 (by decide) (fun h34_0 => absurd h34_0 (by omega)) (fun h34_0 => ?_)
  exact kx_throw (text := "there are 60 traces") (ik := 54) (is := 85) (ic := 58) hx hb hl0 hown hml (by decide +kernel) (hts (.classLink RX0 54 kISE) (by decide +kernel)) (hts (.initialized kISE) (by decide +kernel)) (fun w hw => hts w (by first | exact List.mem_cons_of_mem _ (List.mem_append_right _ hw) | exact List.mem_cons_of_mem _ (List.mem_append_left _ (List.mem_append_right _ hw)))) ky_badS (Or.inl rfl) ky_okS (by decide +kernel) hZ hP hK hD hS hxt hlocks hl.1 dX0_write_37 dX0_write_40 dX0_write_41 dX0_write_43 dX0_write_46 ⟨Nat.le_of_ble_eq_true rfl, Nat.le_of_ble_eq_true rfl, Nat.le_of_ble_eq_true rfl, Nat.le_of_ble_eq_true rfl⟩
set_option maxHeartbeats 4000000 in
set_option maxRecDepth 100000 in
theorem c_X0_read_xa (l : Launch) (hl0 : l.stackTraces = false) (dC : Nat → ClassId) (dI : Nat → Nat → Nat) (cA : ClassId) (h0 q0 q1 q2 q3 q4 q5 : Nat) (w ce nm tl tc tw : Nat → Int32) (T n z : Nat) (wtc wia off : Int32) (cell : Int32) (hc : kx_isCell cell = 0) : kMx l yX0_read wsX0_read ({ frames := 7, cells := 1, slots := 6, locals := 111 }) dC dI [(cA, .int)] (wX0 cA h0 q0 q1 q2 q3 q4 q5 w ce nm tl tc tw T n z wtc wia off) [.ref h0, .int cell] kIAE := by
  refine kMx_of (cc := cX0_read) (maxL := 2) (ret := (some .int)) (by decide) rfl (Nat.le_of_ble_eq_true rfl) ?_
  intro p e s m below meth c A ls hx hb hml hr hts hown hlocks hA hP hK hD hS hZ hxt hl
  have hin : ∀ w ∈ u_ws RX0 TX0 12, w ∈ wsX0_read := by decide +kernel
  have hl : lv_has ls 2 [(0, .ref h0), (1, .int cell)] := hl
  refine lv_aload_n hx hb dX0_read_0 rfl (lv_at hl 0 rfl) ?_
  refine lv_iload_n hx hb dX0_read_1 rfl (lv_at hl 1 rfl) ?_
  exact kx_thru (n := 1) (c_X0_needCell_x l hl0 dC dI cA h0 q0 q1 q2 q3 q4 q5 w ce nm tl tc tw T n z wtc wia off cell hc) hx hb hml hown hts gX0_read_X0_needCell rfl ⟨rfl, rfl⟩ (by decide +kernel) rfl ⟨Nat.le_of_ble_eq_true rfl, Nat.le_of_ble_eq_true rfl, Nat.le_of_ble_eq_true rfl, Nat.le_of_ble_eq_true rfl⟩ hK hP hD hS hA hZ hxt hlocks [0, 1, 2, 3, 4, 5, 6] rfl (q0 := 0) rfl rfl hl.1 rfl (Nat.le_of_ble_eq_true rfl) dX0_read_2
set_option maxHeartbeats 4000000 in
set_option maxRecDepth 100000 in
theorem c_X0_read_xb (l : Launch) (hl0 : l.stackTraces = false) (dC : Nat → ClassId) (dI : Nat → Nat → Nat) (cA : ClassId) (h0 q0 q1 q2 q3 q4 q5 : Nat) (w ce nm tl tc tw : Nat → Int32) (T n z : Nat) (wtc wia off : Int32) (cell : Nat) (hc : cell < 32) (ho : ¬ off = 0) : kMx l yX0_read wsX0_read ({ frames := 7, cells := 1, slots := 6, locals := 111 }) dC dI [(cA, .int)] (wX0 cA h0 q0 q1 q2 q3 q4 q5 w ce nm tl tc tw T n z wtc wia off) [.ref h0, .int (nI cell)] kISE := by
  refine kMx_of (cc := cX0_read) (maxL := 2) (ret := (some .int)) (by decide) rfl (Nat.le_of_ble_eq_true rfl) ?_
  intro p e s m below meth c A ls hx hb hml hr hts hown hlocks hA hP hK hD hS hZ hxt hl
  have hin : ∀ w ∈ u_ws RX0 TX0 12, w ∈ wsX0_read := by decide +kernel
  have hl : lv_has ls 2 [(0, .ref h0), (1, .int (nI cell))] := hl
  refine lv_aload_n hx hb dX0_read_0 rfl (lv_at hl 0 rfl) ?_
  refine lv_iload_n hx hb dX0_read_1 rfl (lv_at hl 1 rfl) ?_
  refine kv_Vv (Xr := []) (n := 1) (c_X0_needCell l dC dI cA h0 q0 q1 q2 q3 q4 q5 w ce nm tl tc tw T n z wtc wia off cell (by omega)) hx hb hml hown hts gX0_read_X0_needCell rfl ⟨rfl, rfl⟩ (by decide +kernel) rfl ⟨Nat.le_of_ble_eq_true rfl, Nat.le_of_ble_eq_true rfl⟩ hK hP hD hS hA [0] [0, 1, 2, 3, 4, 5, 6] [] rfl rfl rfl (by decide) (by decide) (q0 := 0) rfl rfl rfl (by decide) hl.1 rfl (Nat.le_of_ble_eq_true rfl) dX0_read_2 ⟨Nat.zero_le _, Nat.zero_le _⟩ (fun H locs hP hD hS => ?_)
  have hP : va_P (dC, dI) vwCl (wX0 cA h0 q0 q1 q2 q3 q4 q5 w ce nm tl tc tw T n z wtc wia off) H := hP
  have hD : va_D A (wX0 cA h0 q0 q1 q2 q3 q4 q5 w ce nm tl tc tw T n z wtc wia off) := hD
  refine lv_aload_n hx hb dX0_read_5 rfl (lv_at hl 0 rfl) ?_
  exact kx_thru (n := 0) (c_X0_needPower_x l hl0 dC dI cA h0 q0 q1 q2 q3 q4 q5 w ce nm tl tc tw T n z wtc wia off  ho) hx hb hml hown hts gX0_read_X0_needPower rfl ⟨rfl, rfl⟩ (by decide +kernel) rfl ⟨Nat.le_of_ble_eq_true rfl, Nat.le_of_ble_eq_true rfl, Nat.le_of_ble_eq_true rfl, Nat.le_of_ble_eq_true rfl⟩ hK hP hD hS hA hZ hxt hlocks [0, 1, 2, 3, 4, 5, 6] rfl (q0 := 0) rfl rfl hl.1 rfl (Nat.le_of_ble_eq_true rfl) dX0_read_6
set_option maxHeartbeats 4000000 in
set_option maxRecDepth 100000 in
theorem c_X0_commit_x (l : Launch) (hl0 : l.stackTraces = false) (dC : Nat → ClassId) (dI : Nat → Nat → Nat) (cA : ClassId) (h0 q0 q1 q2 q3 q4 q5 : Nat) (w ce nm tl tc tw : Nat → Int32) (T n z : Nat) (wtc wia off : Int32)  (hx9 : ¬ off = 0 ∨ T = 0) : kMx l yX0_commit wsX0_commit ({ frames := 8, cells := 1, slots := 6, locals := 130 }) dC dI [(cA, .int)] (wX0 cA h0 q0 q1 q2 q3 q4 q5 w ce nm tl tc tw T n z wtc wia off) [.ref h0] kISE := by
  refine kMx_of (cc := cX0_commit) (maxL := 3) (ret := (some .int)) (by decide) rfl (Nat.le_of_ble_eq_true rfl) ?_
  intro p e s m below meth c A ls hx hb hml hr hts hown hlocks hA hP hK hD hS hZ hxt hl
  have hin : ∀ w ∈ u_ws RX0 TX0 12, w ∈ wsX0_commit := by decide +kernel
  have hl : lv_has ls 3 [(0, .ref h0)] := hl
  refine lv_aload_n hx hb dX0_commit_0 rfl (lv_at hl 0 rfl) ?_
  exact kx_thru (n := 0) (c_X0_needTransaction_x l hl0 dC dI cA h0 q0 q1 q2 q3 q4 q5 w ce nm tl tc tw T n z wtc wia off  hx9) hx hb hml hown hts gX0_commit_X0_needTransaction rfl ⟨rfl, rfl⟩ (by decide +kernel) rfl ⟨Nat.le_of_ble_eq_true rfl, Nat.le_of_ble_eq_true rfl, Nat.le_of_ble_eq_true rfl, Nat.le_of_ble_eq_true rfl⟩ hK hP hD hS hA hZ hxt hlocks [0, 1, 2, 3, 4, 5, 6] rfl (q0 := 0) rfl rfl hl.1 rfl (Nat.le_of_ble_eq_true rfl) dX0_commit_1
set_option maxHeartbeats 4000000 in
set_option maxRecDepth 100000 in
theorem c_X0_abort_x (l : Launch) (hl0 : l.stackTraces = false) (dC : Nat → ClassId) (dI : Nat → Nat → Nat) (cA : ClassId) (h0 q0 q1 q2 q3 q4 q5 : Nat) (w ce nm tl tc tw : Nat → Int32) (T n z : Nat) (wtc wia off : Int32)  (hx9 : ¬ off = 0 ∨ T = 0) : kMx l yX0_abort wsX0_abort ({ frames := 8, cells := 1, slots := 6, locals := 130 }) dC dI [(cA, .int)] (wX0 cA h0 q0 q1 q2 q3 q4 q5 w ce nm tl tc tw T n z wtc wia off) [.ref h0] kISE := by
  refine kMx_of (cc := cX0_abort) (maxL := 2) (ret := (some .int)) (by decide) rfl (Nat.le_of_ble_eq_true rfl) ?_
  intro p e s m below meth c A ls hx hb hml hr hts hown hlocks hA hP hK hD hS hZ hxt hl
  have hin : ∀ w ∈ u_ws RX0 TX0 12, w ∈ wsX0_abort := by decide +kernel
  have hl : lv_has ls 2 [(0, .ref h0)] := hl
  refine lv_aload_n hx hb dX0_abort_0 rfl (lv_at hl 0 rfl) ?_
  exact kx_thru (n := 0) (c_X0_needTransaction_x l hl0 dC dI cA h0 q0 q1 q2 q3 q4 q5 w ce nm tl tc tw T n z wtc wia off  hx9) hx hb hml hown hts gX0_abort_X0_needTransaction rfl ⟨rfl, rfl⟩ (by decide +kernel) rfl ⟨Nat.le_of_ble_eq_true rfl, Nat.le_of_ble_eq_true rfl, Nat.le_of_ble_eq_true rfl, Nat.le_of_ble_eq_true rfl⟩ hK hP hD hS hA hZ hxt hlocks [0, 1, 2, 3, 4, 5, 6] rfl (q0 := 0) rfl rfl hl.1 rfl (Nat.le_of_ble_eq_true rfl) dX0_abort_1
set_option maxHeartbeats 4000000 in
set_option maxRecDepth 100000 in
theorem c_X0_point_xa (l : Launch) (hl0 : l.stackTraces = false) (dC : Nat → ClassId) (dI : Nat → Nat → Nat) (cA : ClassId) (h0 q0 q1 q2 q3 q4 q5 : Nat) (w ce nm tl tc tw : Nat → Int32) (T n z : Nat) (wtc wia off : Int32) (name : Int32) (hnm : name < 0 ∨ ¬ name < nI 10) : kMx l yX0_point wsX0_point ({ frames := 8, cells := 1, slots := 6, locals := 130 }) dC dI [(cA, .int)] (wX0 cA h0 q0 q1 q2 q3 q4 q5 w ce nm tl tc tw T n z wtc wia off) [.ref h0, .int name] kIAE := by
  refine kMx_of (cc := cX0_point) (maxL := 3) (ret := (some .int)) (by decide) rfl (Nat.le_of_ble_eq_true rfl) ?_
  intro p e s m below meth c A ls hx hb hml hr hts hown hlocks hA hP hK hD hS hZ hxt hl
  have hl : lv_has ls 3 [(0, .ref h0), (1, .int name)] := hl
  refine lv_aload_n hx hb dX0_point_0 rfl (lv_at hl 0 rfl) ?_
  refine lv_iload_n hx hb dX0_point_1 rfl (lv_at hl 1 rfl) ?_
  exact kx_thru (n := 1) (c_X0_needName_x l hl0 dC dI cA h0 q0 q1 q2 q3 q4 q5 w ce nm tl tc tw T n z wtc wia off name hnm) hx hb hml hown hts gX0_point_X0_needName rfl ⟨rfl, rfl⟩ (by decide +kernel) rfl ⟨Nat.le_of_ble_eq_true rfl, Nat.le_of_ble_eq_true rfl, Nat.le_of_ble_eq_true rfl, Nat.le_of_ble_eq_true rfl⟩ hK hP hD hS hA hZ hxt hlocks [0, 1, 2, 3, 4, 5, 6] rfl (q0 := 0) rfl rfl hl.1 rfl (Nat.le_of_ble_eq_true rfl) dX0_point_2
set_option maxHeartbeats 4000000 in
set_option maxRecDepth 100000 in
theorem c_X0_point_xb (l : Launch) (hl0 : l.stackTraces = false) (dC : Nat → ClassId) (dI : Nat → Nat → Nat) (cA : ClassId) (h0 q0 q1 q2 q3 q4 q5 : Nat) (w ce nm tl tc tw : Nat → Int32) (T n z : Nat) (wtc wia off : Int32) (name : Nat) (hnm : name < 10) (hx9 : ¬ off = 0 ∨ T = 0) : kMx l yX0_point wsX0_point ({ frames := 8, cells := 1, slots := 6, locals := 130 }) dC dI [(cA, .int)] (wX0 cA h0 q0 q1 q2 q3 q4 q5 w ce nm tl tc tw T n z wtc wia off) [.ref h0, .int (nI name)] kISE := by
  refine kMx_of (cc := cX0_point) (maxL := 3) (ret := (some .int)) (by decide) rfl (Nat.le_of_ble_eq_true rfl) ?_
  intro p e s m below meth c A ls hx hb hml hr hts hown hlocks hA hP hK hD hS hZ hxt hl
  have hl : lv_has ls 3 [(0, .ref h0), (1, .int (nI name))] := hl
  refine lv_aload_n hx hb dX0_point_0 rfl (lv_at hl 0 rfl) ?_
  refine lv_iload_n hx hb dX0_point_1 rfl (lv_at hl 1 rfl) ?_
  refine kv_Vv (Xr := []) (n := 1) (c_X0_needName l dC dI cA h0 q0 q1 q2 q3 q4 q5 w ce nm tl tc tw T n z wtc wia off name (by omega)) hx hb hml hown hts gX0_point_X0_needName rfl ⟨rfl, rfl⟩ (by decide +kernel) rfl ⟨Nat.le_of_ble_eq_true rfl, Nat.le_of_ble_eq_true rfl⟩ hK hP hD hS hA [0] [0, 1, 2, 3, 4, 5, 6] [] rfl rfl rfl (by decide) (by decide) (q0 := 0) rfl rfl rfl (by decide) hl.1 rfl (Nat.le_of_ble_eq_true rfl) dX0_point_2 ⟨Nat.zero_le _, Nat.zero_le _⟩ (fun H locs hP hD hS => ?_)
  have hP : va_P (dC, dI) vwCl (wX0 cA h0 q0 q1 q2 q3 q4 q5 w ce nm tl tc tw T n z wtc wia off) H := hP
  have hD : va_D A (wX0 cA h0 q0 q1 q2 q3 q4 q5 w ce nm tl tc tw T n z wtc wia off) := hD
  refine lv_aload_n hx hb dX0_point_5 rfl (lv_at hl 0 rfl) ?_
  exact kx_thru (n := 0) (c_X0_needTransaction_x l hl0 dC dI cA h0 q0 q1 q2 q3 q4 q5 w ce nm tl tc tw T n z wtc wia off  hx9) hx hb hml hown hts gX0_point_X0_needTransaction rfl ⟨rfl, rfl⟩ (by decide +kernel) rfl ⟨Nat.le_of_ble_eq_true rfl, Nat.le_of_ble_eq_true rfl, Nat.le_of_ble_eq_true rfl, Nat.le_of_ble_eq_true rfl⟩ hK hP hD hS hA hZ hxt hlocks [0, 1, 2, 3, 4, 5, 6] rfl (q0 := 0) rfl rfl hl.1 rfl (Nat.le_of_ble_eq_true rfl) dX0_point_6
set_option maxHeartbeats 4000000 in
set_option maxRecDepth 100000 in
theorem c_X0_back_xa (l : Launch) (hl0 : l.stackTraces = false) (dC : Nat → ClassId) (dI : Nat → Nat → Nat) (cA : ClassId) (h0 q0 q1 q2 q3 q4 q5 : Nat) (w ce nm tl tc tw : Nat → Int32) (T n z : Nat) (wtc wia off : Int32) (name : Int32) (hnm : name < 0 ∨ ¬ name < nI 10) : kMx l yX0_back wsX0_back ({ frames := 8, cells := 1, slots := 6, locals := 130 }) dC dI [(cA, .int)] (wX0 cA h0 q0 q1 q2 q3 q4 q5 w ce nm tl tc tw T n z wtc wia off) [.ref h0, .int name] kIAE := by
  refine kMx_of (cc := cX0_back) (maxL := 3) (ret := (some .int)) (by decide) rfl (Nat.le_of_ble_eq_true rfl) ?_
  intro p e s m below meth c A ls hx hb hml hr hts hown hlocks hA hP hK hD hS hZ hxt hl
  have hl : lv_has ls 3 [(0, .ref h0), (1, .int name)] := hl
  refine lv_aload_n hx hb dX0_back_0 rfl (lv_at hl 0 rfl) ?_
  refine lv_iload_n hx hb dX0_back_1 rfl (lv_at hl 1 rfl) ?_
  exact kx_thru (n := 1) (c_X0_needName_x l hl0 dC dI cA h0 q0 q1 q2 q3 q4 q5 w ce nm tl tc tw T n z wtc wia off name hnm) hx hb hml hown hts gX0_back_X0_needName rfl ⟨rfl, rfl⟩ (by decide +kernel) rfl ⟨Nat.le_of_ble_eq_true rfl, Nat.le_of_ble_eq_true rfl, Nat.le_of_ble_eq_true rfl, Nat.le_of_ble_eq_true rfl⟩ hK hP hD hS hA hZ hxt hlocks [0, 1, 2, 3, 4, 5, 6] rfl (q0 := 0) rfl rfl hl.1 rfl (Nat.le_of_ble_eq_true rfl) dX0_back_2
set_option maxHeartbeats 4000000 in
set_option maxRecDepth 100000 in
theorem c_X0_back_xb (l : Launch) (hl0 : l.stackTraces = false) (dC : Nat → ClassId) (dI : Nat → Nat → Nat) (cA : ClassId) (h0 q0 q1 q2 q3 q4 q5 : Nat) (w ce nm tl tc tw : Nat → Int32) (T n z : Nat) (wtc wia off : Int32) (name : Nat) (hnm : name < 10) (hx9 : ¬ off = 0 ∨ T = 0) : kMx l yX0_back wsX0_back ({ frames := 8, cells := 1, slots := 6, locals := 130 }) dC dI [(cA, .int)] (wX0 cA h0 q0 q1 q2 q3 q4 q5 w ce nm tl tc tw T n z wtc wia off) [.ref h0, .int (nI name)] kISE := by
  refine kMx_of (cc := cX0_back) (maxL := 3) (ret := (some .int)) (by decide) rfl (Nat.le_of_ble_eq_true rfl) ?_
  intro p e s m below meth c A ls hx hb hml hr hts hown hlocks hA hP hK hD hS hZ hxt hl
  have hl : lv_has ls 3 [(0, .ref h0), (1, .int (nI name))] := hl
  refine lv_aload_n hx hb dX0_back_0 rfl (lv_at hl 0 rfl) ?_
  refine lv_iload_n hx hb dX0_back_1 rfl (lv_at hl 1 rfl) ?_
  refine kv_Vv (Xr := []) (n := 1) (c_X0_needName l dC dI cA h0 q0 q1 q2 q3 q4 q5 w ce nm tl tc tw T n z wtc wia off name (by omega)) hx hb hml hown hts gX0_back_X0_needName rfl ⟨rfl, rfl⟩ (by decide +kernel) rfl ⟨Nat.le_of_ble_eq_true rfl, Nat.le_of_ble_eq_true rfl⟩ hK hP hD hS hA [0] [0, 1, 2, 3, 4, 5, 6] [] rfl rfl rfl (by decide) (by decide) (q0 := 0) rfl rfl rfl (by decide) hl.1 rfl (Nat.le_of_ble_eq_true rfl) dX0_back_2 ⟨Nat.zero_le _, Nat.zero_le _⟩ (fun H locs hP hD hS => ?_)
  have hP : va_P (dC, dI) vwCl (wX0 cA h0 q0 q1 q2 q3 q4 q5 w ce nm tl tc tw T n z wtc wia off) H := hP
  have hD : va_D A (wX0 cA h0 q0 q1 q2 q3 q4 q5 w ce nm tl tc tw T n z wtc wia off) := hD
  refine lv_aload_n hx hb dX0_back_5 rfl (lv_at hl 0 rfl) ?_
  exact kx_thru (n := 0) (c_X0_needTransaction_x l hl0 dC dI cA h0 q0 q1 q2 q3 q4 q5 w ce nm tl tc tw T n z wtc wia off  hx9) hx hb hml hown hts gX0_back_X0_needTransaction rfl ⟨rfl, rfl⟩ (by decide +kernel) rfl ⟨Nat.le_of_ble_eq_true rfl, Nat.le_of_ble_eq_true rfl, Nat.le_of_ble_eq_true rfl, Nat.le_of_ble_eq_true rfl⟩ hK hP hD hS hA hZ hxt hlocks [0, 1, 2, 3, 4, 5, 6] rfl (q0 := 0) rfl rfl hl.1 rfl (Nat.le_of_ble_eq_true rfl) dX0_back_6
set_option maxHeartbeats 4000000 in
set_option maxRecDepth 100000 in
theorem c_X0_back_xc (l : Launch) (hl0 : l.stackTraces = false) (dC : Nat → ClassId) (dI : Nat → Nat → Nat) (cA : ClassId) (h0 q0 q1 q2 q3 q4 q5 : Nat) (w ce nm tl tc tw : Nat → Int32) (T n z : Nat) (wtc wia off : Int32) (name : Nat) (hnm : name < 10) (ho : off = 0) (hT : 0 < T) (hT8 : T ≤ 8) (hn : n ≤ 88) (hpl : kx_pl nm (nI name) (kx_inn nm n) n = 0) : kMx l yX0_back wsX0_back ({ frames := 8, cells := 1, slots := 6, locals := 130 }) dC dI [(cA, .int)] (wX0 cA h0 q0 q1 q2 q3 q4 q5 w ce nm tl tc tw T n z wtc wia off) [.ref h0, .int (nI name)] kIAE := by
  refine kMx_of (cc := cX0_back) (maxL := 3) (ret := (some .int)) (by decide) rfl (Nat.le_of_ble_eq_true rfl) ?_
  intro p e s m below meth c A ls hx hb hml hr hts hown hlocks hA hP hK hD hS hZ hxt hl
  have hl : lv_has ls 3 [(0, .ref h0), (1, .int (nI name))] := hl
  refine lv_aload_n hx hb dX0_back_0 rfl (lv_at hl 0 rfl) ?_
  refine lv_iload_n hx hb dX0_back_1 rfl (lv_at hl 1 rfl) ?_
  refine kv_Vv (Xr := []) (n := 1) (c_X0_needName l dC dI cA h0 q0 q1 q2 q3 q4 q5 w ce nm tl tc tw T n z wtc wia off name (by omega)) hx hb hml hown hts gX0_back_X0_needName rfl ⟨rfl, rfl⟩ (by decide +kernel) rfl ⟨Nat.le_of_ble_eq_true rfl, Nat.le_of_ble_eq_true rfl⟩ hK hP hD hS hA [0] [0, 1, 2, 3, 4, 5, 6] [] rfl rfl rfl (by decide) (by decide) (q0 := 0) rfl rfl rfl (by decide) hl.1 rfl (Nat.le_of_ble_eq_true rfl) dX0_back_2 ⟨Nat.zero_le _, Nat.zero_le _⟩ (fun H locs hP hD hS => ?_)
  have hP : va_P (dC, dI) vwCl (wX0 cA h0 q0 q1 q2 q3 q4 q5 w ce nm tl tc tw T n z wtc wia off) H := hP
  have hD : va_D A (wX0 cA h0 q0 q1 q2 q3 q4 q5 w ce nm tl tc tw T n z wtc wia off) := hD
  refine lv_aload_n hx hb dX0_back_5 rfl (lv_at hl 0 rfl) ?_
  refine kv_Vv (Xr := []) (n := 0) (c_X0_needTransaction l dC dI cA h0 q0 q1 q2 q3 q4 q5 w ce nm tl tc tw T n z wtc wia off  ho hT hT8) hx hb hml hown hts gX0_back_X0_needTransaction rfl ⟨rfl, rfl⟩ (by decide +kernel) rfl ⟨Nat.le_of_ble_eq_true rfl, Nat.le_of_ble_eq_true rfl⟩ hK hP hD hS hA [0] [0, 1, 2, 3, 4, 5, 6] [] rfl rfl rfl (by decide) (by decide) (q0 := 0) rfl rfl rfl (by decide) hl.1 rfl (Nat.le_of_ble_eq_true rfl) dX0_back_6 ⟨Nat.zero_le _, Nat.zero_le _⟩ (fun H locs hP hD hS => ?_)
  have hP : va_P (dC, dI) vwCl (wX0 cA h0 q0 q1 q2 q3 q4 q5 w ce nm tl tc tw T n z wtc wia off) H := hP
  have hD : va_D A (wX0 cA h0 q0 q1 q2 q3 q4 q5 w ce nm tl tc tw T n z wtc wia off) := hD
  refine lv_aload_n hx hb dX0_back_9 rfl (lv_at hl 0 rfl) ?_
  refine lv_aload_n hx hb dX0_back_10 rfl (lv_at hl 0 rfl) ?_
  refine lv_iload_n hx hb dX0_back_11 rfl (lv_at hl 1 rfl) ?_
  exact kx_thru (n := 1) (c_X0_needPoint_x l hl0 dC dI cA h0 q0 q1 q2 q3 q4 q5 w ce nm tl tc tw T n z wtc wia off name hn hpl) hx hb hml hown hts gX0_back_X0_needPoint rfl ⟨rfl, rfl⟩ (by decide +kernel) rfl ⟨Nat.le_of_ble_eq_true rfl, Nat.le_of_ble_eq_true rfl, Nat.le_of_ble_eq_true rfl, Nat.le_of_ble_eq_true rfl⟩ hK hP hD hS hA hZ hxt hlocks [0, 1, 2, 3, 4, 5, 6] rfl (q0 := 0) rfl rfl hl.1 rfl (Nat.le_of_ble_eq_true rfl) dX0_back_12
set_option maxHeartbeats 4000000 in
set_option maxRecDepth 100000 in
theorem c_X0_release_xa (l : Launch) (hl0 : l.stackTraces = false) (dC : Nat → ClassId) (dI : Nat → Nat → Nat) (cA : ClassId) (h0 q0 q1 q2 q3 q4 q5 : Nat) (w ce nm tl tc tw : Nat → Int32) (T n z : Nat) (wtc wia off : Int32) (name : Int32) (hnm : name < 0 ∨ ¬ name < nI 10) : kMx l yX0_release wsX0_release ({ frames := 8, cells := 1, slots := 6, locals := 130 }) dC dI [(cA, .int)] (wX0 cA h0 q0 q1 q2 q3 q4 q5 w ce nm tl tc tw T n z wtc wia off) [.ref h0, .int name] kIAE := by
  refine kMx_of (cc := cX0_release) (maxL := 2) (ret := (some .int)) (by decide) rfl (Nat.le_of_ble_eq_true rfl) ?_
  intro p e s m below meth c A ls hx hb hml hr hts hown hlocks hA hP hK hD hS hZ hxt hl
  have hl : lv_has ls 2 [(0, .ref h0), (1, .int name)] := hl
  refine lv_aload_n hx hb dX0_release_0 rfl (lv_at hl 0 rfl) ?_
  refine lv_iload_n hx hb dX0_release_1 rfl (lv_at hl 1 rfl) ?_
  exact kx_thru (n := 1) (c_X0_needName_x l hl0 dC dI cA h0 q0 q1 q2 q3 q4 q5 w ce nm tl tc tw T n z wtc wia off name hnm) hx hb hml hown hts gX0_release_X0_needName rfl ⟨rfl, rfl⟩ (by decide +kernel) rfl ⟨Nat.le_of_ble_eq_true rfl, Nat.le_of_ble_eq_true rfl, Nat.le_of_ble_eq_true rfl, Nat.le_of_ble_eq_true rfl⟩ hK hP hD hS hA hZ hxt hlocks [0, 1, 2, 3, 4, 5, 6] rfl (q0 := 0) rfl rfl hl.1 rfl (Nat.le_of_ble_eq_true rfl) dX0_release_2
set_option maxHeartbeats 4000000 in
set_option maxRecDepth 100000 in
theorem c_X0_release_xb (l : Launch) (hl0 : l.stackTraces = false) (dC : Nat → ClassId) (dI : Nat → Nat → Nat) (cA : ClassId) (h0 q0 q1 q2 q3 q4 q5 : Nat) (w ce nm tl tc tw : Nat → Int32) (T n z : Nat) (wtc wia off : Int32) (name : Nat) (hnm : name < 10) (hx9 : ¬ off = 0 ∨ T = 0) : kMx l yX0_release wsX0_release ({ frames := 8, cells := 1, slots := 6, locals := 130 }) dC dI [(cA, .int)] (wX0 cA h0 q0 q1 q2 q3 q4 q5 w ce nm tl tc tw T n z wtc wia off) [.ref h0, .int (nI name)] kISE := by
  refine kMx_of (cc := cX0_release) (maxL := 2) (ret := (some .int)) (by decide) rfl (Nat.le_of_ble_eq_true rfl) ?_
  intro p e s m below meth c A ls hx hb hml hr hts hown hlocks hA hP hK hD hS hZ hxt hl
  have hl : lv_has ls 2 [(0, .ref h0), (1, .int (nI name))] := hl
  refine lv_aload_n hx hb dX0_release_0 rfl (lv_at hl 0 rfl) ?_
  refine lv_iload_n hx hb dX0_release_1 rfl (lv_at hl 1 rfl) ?_
  refine kv_Vv (Xr := []) (n := 1) (c_X0_needName l dC dI cA h0 q0 q1 q2 q3 q4 q5 w ce nm tl tc tw T n z wtc wia off name (by omega)) hx hb hml hown hts gX0_release_X0_needName rfl ⟨rfl, rfl⟩ (by decide +kernel) rfl ⟨Nat.le_of_ble_eq_true rfl, Nat.le_of_ble_eq_true rfl⟩ hK hP hD hS hA [0] [0, 1, 2, 3, 4, 5, 6] [] rfl rfl rfl (by decide) (by decide) (q0 := 0) rfl rfl rfl (by decide) hl.1 rfl (Nat.le_of_ble_eq_true rfl) dX0_release_2 ⟨Nat.zero_le _, Nat.zero_le _⟩ (fun H locs hP hD hS => ?_)
  have hP : va_P (dC, dI) vwCl (wX0 cA h0 q0 q1 q2 q3 q4 q5 w ce nm tl tc tw T n z wtc wia off) H := hP
  have hD : va_D A (wX0 cA h0 q0 q1 q2 q3 q4 q5 w ce nm tl tc tw T n z wtc wia off) := hD
  refine lv_aload_n hx hb dX0_release_5 rfl (lv_at hl 0 rfl) ?_
  exact kx_thru (n := 0) (c_X0_needTransaction_x l hl0 dC dI cA h0 q0 q1 q2 q3 q4 q5 w ce nm tl tc tw T n z wtc wia off  hx9) hx hb hml hown hts gX0_release_X0_needTransaction rfl ⟨rfl, rfl⟩ (by decide +kernel) rfl ⟨Nat.le_of_ble_eq_true rfl, Nat.le_of_ble_eq_true rfl, Nat.le_of_ble_eq_true rfl, Nat.le_of_ble_eq_true rfl⟩ hK hP hD hS hA hZ hxt hlocks [0, 1, 2, 3, 4, 5, 6] rfl (q0 := 0) rfl rfl hl.1 rfl (Nat.le_of_ble_eq_true rfl) dX0_release_6
set_option maxHeartbeats 4000000 in
set_option maxRecDepth 100000 in
theorem c_X0_release_xc (l : Launch) (hl0 : l.stackTraces = false) (dC : Nat → ClassId) (dI : Nat → Nat → Nat) (cA : ClassId) (h0 q0 q1 q2 q3 q4 q5 : Nat) (w ce nm tl tc tw : Nat → Int32) (T n z : Nat) (wtc wia off : Int32) (name : Nat) (hnm : name < 10) (ho : off = 0) (hT : 0 < T) (hT8 : T ≤ 8) (hn : n ≤ 88) (hpl : kx_pl nm (nI name) (kx_inn nm n) n = 0) : kMx l yX0_release wsX0_release ({ frames := 8, cells := 1, slots := 6, locals := 130 }) dC dI [(cA, .int)] (wX0 cA h0 q0 q1 q2 q3 q4 q5 w ce nm tl tc tw T n z wtc wia off) [.ref h0, .int (nI name)] kIAE := by
  refine kMx_of (cc := cX0_release) (maxL := 2) (ret := (some .int)) (by decide) rfl (Nat.le_of_ble_eq_true rfl) ?_
  intro p e s m below meth c A ls hx hb hml hr hts hown hlocks hA hP hK hD hS hZ hxt hl
  have hl : lv_has ls 2 [(0, .ref h0), (1, .int (nI name))] := hl
  refine lv_aload_n hx hb dX0_release_0 rfl (lv_at hl 0 rfl) ?_
  refine lv_iload_n hx hb dX0_release_1 rfl (lv_at hl 1 rfl) ?_
  refine kv_Vv (Xr := []) (n := 1) (c_X0_needName l dC dI cA h0 q0 q1 q2 q3 q4 q5 w ce nm tl tc tw T n z wtc wia off name (by omega)) hx hb hml hown hts gX0_release_X0_needName rfl ⟨rfl, rfl⟩ (by decide +kernel) rfl ⟨Nat.le_of_ble_eq_true rfl, Nat.le_of_ble_eq_true rfl⟩ hK hP hD hS hA [0] [0, 1, 2, 3, 4, 5, 6] [] rfl rfl rfl (by decide) (by decide) (q0 := 0) rfl rfl rfl (by decide) hl.1 rfl (Nat.le_of_ble_eq_true rfl) dX0_release_2 ⟨Nat.zero_le _, Nat.zero_le _⟩ (fun H locs hP hD hS => ?_)
  have hP : va_P (dC, dI) vwCl (wX0 cA h0 q0 q1 q2 q3 q4 q5 w ce nm tl tc tw T n z wtc wia off) H := hP
  have hD : va_D A (wX0 cA h0 q0 q1 q2 q3 q4 q5 w ce nm tl tc tw T n z wtc wia off) := hD
  refine lv_aload_n hx hb dX0_release_5 rfl (lv_at hl 0 rfl) ?_
  refine kv_Vv (Xr := []) (n := 0) (c_X0_needTransaction l dC dI cA h0 q0 q1 q2 q3 q4 q5 w ce nm tl tc tw T n z wtc wia off  ho hT hT8) hx hb hml hown hts gX0_release_X0_needTransaction rfl ⟨rfl, rfl⟩ (by decide +kernel) rfl ⟨Nat.le_of_ble_eq_true rfl, Nat.le_of_ble_eq_true rfl⟩ hK hP hD hS hA [0] [0, 1, 2, 3, 4, 5, 6] [] rfl rfl rfl (by decide) (by decide) (q0 := 0) rfl rfl rfl (by decide) hl.1 rfl (Nat.le_of_ble_eq_true rfl) dX0_release_6 ⟨Nat.zero_le _, Nat.zero_le _⟩ (fun H locs hP hD hS => ?_)
  have hP : va_P (dC, dI) vwCl (wX0 cA h0 q0 q1 q2 q3 q4 q5 w ce nm tl tc tw T n z wtc wia off) H := hP
  have hD : va_D A (wX0 cA h0 q0 q1 q2 q3 q4 q5 w ce nm tl tc tw T n z wtc wia off) := hD
  refine lv_aload_n hx hb dX0_release_9 rfl (lv_at hl 0 rfl) ?_
  refine lv_aload_n hx hb dX0_release_10 rfl (lv_at hl 0 rfl) ?_
  refine lv_iload_n hx hb dX0_release_11 rfl (lv_at hl 1 rfl) ?_
  exact kx_thru (n := 1) (c_X0_needPoint_x l hl0 dC dI cA h0 q0 q1 q2 q3 q4 q5 w ce nm tl tc tw T n z wtc wia off name hn hpl) hx hb hml hown hts gX0_release_X0_needPoint rfl ⟨rfl, rfl⟩ (by decide +kernel) rfl ⟨Nat.le_of_ble_eq_true rfl, Nat.le_of_ble_eq_true rfl, Nat.le_of_ble_eq_true rfl, Nat.le_of_ble_eq_true rfl⟩ hK hP hD hS hA hZ hxt hlocks [0, 1, 2, 3, 4, 5, 6] rfl (q0 := 0) rfl rfl hl.1 rfl (Nat.le_of_ble_eq_true rfl) dX0_release_12
set_option maxHeartbeats 4000000 in
set_option maxRecDepth 100000 in
theorem c_X0_disk_x (l : Launch) (hl0 : l.stackTraces = false) (dC : Nat → ClassId) (dI : Nat → Nat → Nat) (cA : ClassId) (h0 q0 q1 q2 q3 q4 q5 : Nat) (w ce nm tl tc tw : Nat → Int32) (T n z : Nat) (wtc wia off : Int32) (i : Int32) (hw : i < 0 ∨ ¬ i < nI 98) : kMx l yX0_disk wsX0_disk ({ frames := 7, cells := 1, slots := 6, locals := 111 }) dC dI [(cA, .int)] (wX0 cA h0 q0 q1 q2 q3 q4 q5 w ce nm tl tc tw T n z wtc wia off) [.ref h0, .int i] kIAE := by
  refine kMx_of (cc := cX0_disk) (maxL := 2) (ret := (some .int)) (by decide) rfl (Nat.le_of_ble_eq_true rfl) ?_
  intro p e s m below meth c A ls hx hb hml hr hts hown hlocks hA hP hK hD hS hZ hxt hl
  have hin : ∀ w ∈ u_ws RX0 TX0 12, w ∈ wsX0_disk := by decide +kernel
  have hl : lv_has ls 2 [(0, .ref h0), (1, .int i)] := hl
  refine lv_aload_n hx hb dX0_disk_0 rfl (lv_at hl 0 rfl) ?_
  refine lv_iload_n hx hb dX0_disk_1 rfl (lv_at hl 1 rfl) ?_
  exact kx_thru (n := 1) (c_X0_needWord_x l hl0 dC dI cA h0 q0 q1 q2 q3 q4 q5 w ce nm tl tc tw T n z wtc wia off i hw) hx hb hml hown hts gX0_disk_X0_needWord rfl ⟨rfl, rfl⟩ (by decide +kernel) rfl ⟨Nat.le_of_ble_eq_true rfl, Nat.le_of_ble_eq_true rfl, Nat.le_of_ble_eq_true rfl, Nat.le_of_ble_eq_true rfl⟩ hK hP hD hS hA hZ hxt hlocks [0, 1, 2, 3, 4, 5, 6] rfl (q0 := 0) rfl rfl hl.1 rfl (Nat.le_of_ble_eq_true rfl) dX0_disk_2
set_option maxHeartbeats 4000000 in
set_option maxRecDepth 100000 in
theorem c_X0_spoil_x (l : Launch) (hl0 : l.stackTraces = false) (dC : Nat → ClassId) (dI : Nat → Nat → Nat) (cA : ClassId) (h0 q0 q1 q2 q3 q4 q5 : Nat) (w ce nm tl tc tw : Nat → Int32) (T n z : Nat) (wtc wia off : Int32) (i : Int32) (v : Int32) (hw : i < 0 ∨ ¬ i < nI 98) : kMx l yX0_spoil wsX0_spoil ({ frames := 7, cells := 1, slots := 6, locals := 111 }) dC dI [(cA, .int)] (wX0 cA h0 q0 q1 q2 q3 q4 q5 w ce nm tl tc tw T n z wtc wia off) [.ref h0, .int i, .int v] kIAE := by
  refine kMx_of (cc := cX0_spoil) (maxL := 4) (ret := (some .int)) (by decide) rfl (Nat.le_of_ble_eq_true rfl) ?_
  intro p e s m below meth c A ls hx hb hml hr hts hown hlocks hA hP hK hD hS hZ hxt hl
  have hin : ∀ w ∈ u_ws RX0 TX0 12, w ∈ wsX0_spoil := by decide +kernel
  have hl : lv_has ls 4 [(0, .ref h0), (1, .int i), (2, .int v)] := hl
  refine lv_aload_n hx hb dX0_spoil_0 rfl (lv_at hl 0 rfl) ?_
  refine lv_iload_n hx hb dX0_spoil_1 rfl (lv_at hl 1 rfl) ?_
  exact kx_thru (n := 1) (c_X0_needWord_x l hl0 dC dI cA h0 q0 q1 q2 q3 q4 q5 w ce nm tl tc tw T n z wtc wia off i hw) hx hb hml hown hts gX0_spoil_X0_needWord rfl ⟨rfl, rfl⟩ (by decide +kernel) rfl ⟨Nat.le_of_ble_eq_true rfl, Nat.le_of_ble_eq_true rfl, Nat.le_of_ble_eq_true rfl, Nat.le_of_ble_eq_true rfl⟩ hK hP hD hS hA hZ hxt hlocks [0, 1, 2, 3, 4, 5, 6] rfl (q0 := 0) rfl rfl hl.1 rfl (Nat.le_of_ble_eq_true rfl) dX0_spoil_2
set_option maxHeartbeats 4000000 in
set_option maxRecDepth 100000 in
theorem c_X0_level_xa (l : Launch) (hl0 : l.stackTraces = false) (dC : Nat → ClassId) (dI : Nat → Nat → Nat) (cA : ClassId) (h0 q0 q1 q2 q3 q4 q5 : Nat) (w ce nm tl tc tw : Nat → Int32) (T n z : Nat) (wtc wia off : Int32) (i : Int32) (what : Int32) (hw : i < 0 ∨ ¬ i < nI n) : kMx l yX0_level wsX0_level ({ frames := 6, cells := 1, slots := 6, locals := 90 }) dC dI [(cA, .int)] (wX0 cA h0 q0 q1 q2 q3 q4 q5 w ce nm tl tc tw T n z wtc wia off) [.ref h0, .int i, .int what] kIAE := by
  refine kMx_of (cc := cX0_level) (maxL := 3) (ret := (some .int)) (by decide) rfl (Nat.le_of_ble_eq_true rfl) ?_
  intro p e s m below meth c A ls hx hb hml hr hts hown hlocks hA hP hK hD hS hZ hxt hl
  have hin : ∀ w ∈ u_ws RX0 TX0 12, w ∈ wsX0_level := by decide +kernel
  have hl : lv_has ls 3 [(0, .ref h0), (1, .int i), (2, .int what)] := hl
  refine lv_iload_n hx hb dX0_level_0 rfl (lv_at hl 1 rfl) ?_
  refine lv_if_lt (tgt := 12) hx hb dX0_level_1 (by decide) (fun h1_0 => ?_) (fun h1_0 => ?_)
  · skip
    exact kx_throw (text := "no such level") (ik := 131) (is := 133) (ic := 135) hx hb hl0 hown hml (by decide +kernel) (hts (.classLink RX0 131 kIAE) (by decide +kernel)) (hts (.initialized kIAE) (by decide +kernel)) (fun w hw => hts w (by first | exact List.mem_cons_of_mem _ (List.mem_append_right _ hw) | exact List.mem_cons_of_mem _ (List.mem_append_left _ (List.mem_append_right _ hw)))) ky_badA (Or.inr rfl) ky_okA (by decide +kernel) hZ hP hK hD hS hxt hlocks hl.1 dX0_level_12 dX0_level_15 dX0_level_16 dX0_level_18 dX0_level_21 ⟨Nat.le_of_ble_eq_true rfl, Nat.le_of_ble_eq_true rfl, Nat.le_of_ble_eq_true rfl, Nat.le_of_ble_eq_true rfl⟩
  · skip
    refine lv_iload_n hx hb dX0_level_4 rfl (lv_at hl 1 rfl) ?_
    refine lv_aload_n hx hb dX0_level_5 rfl (lv_at hl 0 rfl) ?_
    refine va_get (D := (dC, dI)) (ci := 0) (v := .int (nI n)) (C := RX0) (T := TX0) (N := 12) hx hb hts hin hown hK hP 0 rfl rfl 7 (by decide) (hts (.fieldLink RX0 71 "NestCells" "levels" "I") (by decide +kernel)) (fun _ h9 => h9) rfl dX0_level_6 ?_
    refine lv_icmp_lt (tgt := 22) hx hb dX0_level_9 (by decide) (fun h9_1 => ((hw.elim h1_0 (fun q => q h9_1))).elim) (fun h9_1 => ?_)
    exact kx_throw (text := "no such level") (ik := 131) (is := 133) (ic := 135) hx hb hl0 hown hml (by decide +kernel) (hts (.classLink RX0 131 kIAE) (by decide +kernel)) (hts (.initialized kIAE) (by decide +kernel)) (fun w hw => hts w (by first | exact List.mem_cons_of_mem _ (List.mem_append_right _ hw) | exact List.mem_cons_of_mem _ (List.mem_append_left _ (List.mem_append_right _ hw)))) ky_badA (Or.inr rfl) ky_okA (by decide +kernel) hZ hP hK hD hS hxt hlocks hl.1 dX0_level_12 dX0_level_15 dX0_level_16 dX0_level_18 dX0_level_21 ⟨Nat.le_of_ble_eq_true rfl, Nat.le_of_ble_eq_true rfl, Nat.le_of_ble_eq_true rfl, Nat.le_of_ble_eq_true rfl⟩
set_option maxHeartbeats 4000000 in
set_option maxRecDepth 100000 in
theorem c_X0_level_xb (l : Launch) (hl0 : l.stackTraces = false) (dC : Nat → ClassId) (dI : Nat → Nat → Nat) (cA : ClassId) (h0 q0 q1 q2 q3 q4 q5 : Nat) (w ce nm tl tc tw : Nat → Int32) (T n z : Nat) (wtc wia off : Int32) (i : Nat) (what : Int32) (hn : n ≤ 88) (hi : i < n) (h0w : ¬ what.toInt = 0) (h1w : ¬ what.toInt = 1) : kMx l yX0_level wsX0_level ({ frames := 6, cells := 1, slots := 6, locals := 90 }) dC dI [(cA, .int)] (wX0 cA h0 q0 q1 q2 q3 q4 q5 w ce nm tl tc tw T n z wtc wia off) [.ref h0, .int (nI i), .int what] kIAE := by
  refine kMx_of (cc := cX0_level) (maxL := 3) (ret := (some .int)) (by decide) rfl (Nat.le_of_ble_eq_true rfl) ?_
  intro p e s m below meth c A ls hx hb hml hr hts hown hlocks hA hP hK hD hS hZ hxt hl
  have hin : ∀ w ∈ u_ws RX0 TX0 12, w ∈ wsX0_level := by decide +kernel
  have hl : lv_has ls 3 [(0, .ref h0), (1, .int (nI i)), (2, .int what)] := hl
  refine lv_iload_n hx hb dX0_level_0 rfl (lv_at hl 1 rfl) ?_
  refine kv_if_lt (tgt := 12) hx hb (by omega) dX0_level_1 (by decide) ?_
  refine lv_iload_n hx hb dX0_level_4 rfl (lv_at hl 1 rfl) ?_
  refine lv_aload_n hx hb dX0_level_5 rfl (lv_at hl 0 rfl) ?_
  refine va_get (D := (dC, dI)) (ci := 0) (v := .int (nI n)) (C := RX0) (T := TX0) (N := 12) hx hb hts hin hown hK hP 0 rfl rfl 7 (by decide) (hts (.fieldLink RX0 71 "NestCells" "levels" "I") (by decide +kernel)) (fun _ h9 => h9) rfl dX0_level_6 ?_
  refine kv_lt (tgt := 22) hx hb (by omega) (by omega) dX0_level_9 (by decide) (fun h9_0 => ?_) (fun h9_0 => absurd h9_0 (by omega))
  refine lv_iload_n hx hb dX0_level_22 rfl (lv_at hl 2 rfl) ?_
  refine lv_lookup (off := 41) (tgt := 64) hx hb dX0_level_23 (by decide) (by simp [Op.lookupswitch.offset, Ne.symm h0w, Ne.symm h1w]) (by decide) ?_
  exact kx_throw (text := "what is 0 or 1") (ik := 131) (is := 141) (ic := 135) hx hb hl0 hown hml (by decide +kernel) (hts (.classLink RX0 131 kIAE) (by decide +kernel)) (hts (.initialized kIAE) (by decide +kernel)) (fun w hw => hts w (by first | exact List.mem_cons_of_mem _ (List.mem_append_right _ hw) | exact List.mem_cons_of_mem _ (List.mem_append_left _ (List.mem_append_right _ hw)))) ky_badA (Or.inr rfl) ky_okA (by decide +kernel) hZ hP hK hD hS hxt hlocks hl.1 dX0_level_64 dX0_level_67 dX0_level_68 dX0_level_70 dX0_level_73 ⟨Nat.le_of_ble_eq_true rfl, Nat.le_of_ble_eq_true rfl, Nat.le_of_ble_eq_true rfl, Nat.le_of_ble_eq_true rfl⟩
set_option maxHeartbeats 4000000 in
set_option maxRecDepth 100000 in
theorem c_X0_about_x (l : Launch) (hl0 : l.stackTraces = false) (dC : Nat → ClassId) (dI : Nat → Nat → Nat) (cA : ClassId) (h0 q0 q1 q2 q3 q4 q5 : Nat) (w ce nm tl tc tw : Nat → Int32) (T n z : Nat) (wtc wia off : Int32) (what : Int32) (hw : what.toInt < 0 ∨ 6 < what.toInt) : kMx l yX0_about wsX0_about ({ frames := 6, cells := 1, slots := 6, locals := 90 }) dC dI [(cA, .int)] (wX0 cA h0 q0 q1 q2 q3 q4 q5 w ce nm tl tc tw T n z wtc wia off) [.ref h0, .int what] kIAE := by
  refine kMx_of (cc := cX0_about) (maxL := 2) (ret := (some .int)) (by decide) rfl (Nat.le_of_ble_eq_true rfl) ?_
  intro p e s m below meth c A ls hx hb hml hr hts hown hlocks hA hP hK hD hS hZ hxt hl
  have hin : ∀ w ∈ u_ws RX0 TX0 12, w ∈ wsX0_about := by decide +kernel
  have hl : lv_has ls 2 [(0, .ref h0), (1, .int what)] := hl
  refine lv_iload_n hx hb dX0_about_0 rfl (lv_at hl 1 rfl) ?_
  refine lv_tableOut (tgt := 87) hx hb dX0_about_1 hw (by decide) ?_
  exact kx_throw (text := "what is 0 to 6") (ik := 131) (is := 143) (ic := 135) hx hb hl0 hown hml (by decide +kernel) (hts (.classLink RX0 131 kIAE) (by decide +kernel)) (hts (.initialized kIAE) (by decide +kernel)) (fun w hw => hts w (by first | exact List.mem_cons_of_mem _ (List.mem_append_right _ hw) | exact List.mem_cons_of_mem _ (List.mem_append_left _ (List.mem_append_right _ hw)))) ky_badA (Or.inr rfl) ky_okA (by decide +kernel) hZ hP hK hD hS hxt hlocks hl.1 dX0_about_87 dX0_about_90 dX0_about_91 dX0_about_93 dX0_about_96 ⟨Nat.le_of_ble_eq_true rfl, Nat.le_of_ble_eq_true rfl, Nat.le_of_ble_eq_true rfl, Nat.le_of_ble_eq_true rfl⟩
