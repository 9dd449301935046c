set_option maxHeartbeats 4000000 in
set_option maxRecDepth 100000 in
/-- NestCellsModel.bits  -/
theorem c_X1_bits (l : Launch) (dC : Nat → ClassId) (dI : Nat → Nat → Nat)  (x : Int32)  : kMi l yX1_bits wsX1_bits ({ frames := 0, cells := 0, slots := 0, locals := 0 }) dC dI [] [] [.int x] (nI (mo_bits x 32)) [] := by
  refine kMi_of (cc := cX1_bits) (maxL := 3) (ret := (some .int)) (by decide) rfl (Nat.le_of_ble_eq_true rfl) ?_
  intro p e s m below meth c A ls hx hb hml hr hts hown hlocks hA hP hK hD hS hl
  have hl : lv_has ls 3 [(0, .int x)] := hl
  refine lv_iconst (v := (nI 0)) hx hb dX1_bits_0 (by decide) ?_
  refine lv_istore_n (lv' := [(1, .int (nI 0)), (0, .int x)]) hx hb dX1_bits_1 rfl hl (by decide) rfl (fun ls hl => ?_)
  refine lv_iconst (v := (nI 0)) hx hb dX1_bits_2 (by decide) ?_
  refine lv_istore_n (lv' := [(2, .int (nI 0)), (1, .int (nI 0)), (0, .int x)]) hx hb dX1_bits_3 rfl hl (by decide) rfl (fun ls hl => ?_)
  have hl : lv_has ls 3 [(2, .int (nI 0)), (1, .int (nI (mo_bits x 0))), (0, .int x)] := by exact hl
  have lp : ∀ (k : Nat) (t : Nat), ∀ (_ : t + k = 32), ∀ (H : Heap) (locs : List Loc) (ls : Array Slot), va_P (dC, dI) vwCl ([]) H → va_D A ([]) → va_S A s.heap H locs → lv_has ls 3 [(0, .int x), (1, .int (nI (mo_bits x t))), (2, .int (nI t))] → W p l e (headSpec wsX1_bits ({ frames := 0, cells := 0, slots := 0, locals := 0 })).room s m ([.int x] : List Value).toArray below meth c H locs 0 0 (MQ below (va_Qi (fun (r' : Int32) (_ : Unit) => r' = (nI (mo_bits x 32))) (kB dC dI [] [] A) A) ([.int x] : List Value).toArray s 0 0 A) (F0 m 4 ls []) := by
    intro k
    induction k with
    | zero =>
      intro t ht H locs ls hP hD hS hl
      refine lv_iload_n hx hb dX1_bits_4 rfl (lv_at hl 2 rfl) ?_
      refine lv_bipush (v := (nI 32)) hx hb dX1_bits_5 (by decide) ?_
      refine kv_ge (tgt := 24) hx hb (by omega) (by omega) dX1_bits_7 (by decide) (fun h7_0 => ?_) (fun h7_0 => absurd h7_0 (by omega))
      refine lv_iload_n hx hb dX1_bits_24 rfl (lv_at hl 1 rfl) ?_
      exact kMi_ret hx hb hr hlocks hP hK hD hS dX1_bits_25 (by rw [show t = 32 by omega]) rfl
    | succ k ih =>
      intro t ht H locs ls hP hD hS hl
      have hm := mo_bits_le x t
      have hm1 := mo_b_le x t
      refine lv_iload_n hx hb dX1_bits_4 rfl (lv_at hl 2 rfl) ?_
      refine lv_bipush (v := (nI 32)) hx hb dX1_bits_5 (by decide) ?_
      refine kv_ge (tgt := 24) hx hb (by omega) (by omega) dX1_bits_7 (by decide) (fun h7_0 => absurd h7_0 (by omega)) (fun h7_0 => ?_)
      refine lv_iload_n hx hb dX1_bits_10 rfl (lv_at hl 1 rfl) ?_
      refine lv_iload_n hx hb dX1_bits_11 rfl (lv_at hl 0 rfl) ?_
      refine lv_iload_n hx hb dX1_bits_12 rfl (lv_at hl 2 rfl) ?_
      refine lv_ishr hx hb dX1_bits_13 ?_
      refine lv_iconst (v := (nI 1)) hx hb dX1_bits_14 (by decide) ?_
      refine lv_iand hx hb dX1_bits_15 ?_
      refine kv_top (w := .int (nI (mo_b x t))) (by rw [mb_shr x (by omega)]) ?_
      refine kv_addE (d := (mo_bits x t) + (mo_b x t)) hx hb (by omega) dX1_bits_16 ?_
      refine lv_istore_n (lv' := [(1, .int (nI ((mo_bits x t) + (mo_b x t)))), (0, .int x), (2, .int (nI t))]) hx hb dX1_bits_17 rfl hl (by decide) rfl (fun ls hl => ?_)
      refine lv_iinc (v := (nI (t + 1))) (lv' := [(2, .int (nI (t + 1))), (1, .int (nI ((mo_bits x t) + (mo_b x t)))), (0, .int x)]) hx hb dX1_bits_18 hl (k := 2) rfl (kv_inc _ 1 (by decide)) (by decide) rfl (fun ls hl => ?_)
      refine lv_goto (tgt := 4) hx hb dX1_bits_21 (by decide) ?_
      have hl : lv_has ls 3 [(2, .int (nI (t + 1))), (1, .int (nI (mo_bits x (t + 1)))), (0, .int x)] := by exact hl
      exact ih (t + 1) (by omega) _ _ _ hP hD hS (lv_sub hl [2, 1, 0] rfl)
  exact lp 32 0 (by omega) _ _ _ hP hD hS (lv_sub hl [2, 1, 0] rfl)
set_option maxHeartbeats 4000000 in
set_option maxRecDepth 100000 in
/-- NestCellsModel.traces  -/
theorem c_X1_traces (l : Launch) (dC : Nat → ClassId) (dI : Nat → Nat → Nat) (cA : ClassId) (g0 r1 r2 r3 r4 r5 : Nat) (ce w we wr nm : Nat → Int32) (n T : Nat) (cd off told wia : Int32)  (hn : n ≤ 90) : kMi l yX1_traces wsX1_traces ({ frames := 1, cells := 0, slots := 0, locals := 22 }) dC dI [(cA, .int)] (wX1 cA g0 r1 r2 r3 r4 r5 ce w we wr nm n T cd off told wia) [.ref g0] (nI (rx_tr wr n)) (wX1 cA g0 r1 r2 r3 r4 r5 ce w we wr nm n T cd off told wia) := by
  refine kMi_of (cc := cX1_traces) (maxL := 3) (ret := (some .int)) (by decide) rfl (Nat.le_of_ble_eq_true rfl) ?_
  intro p e s m below meth c A ls hx hb hml hr hts hown hlocks hA hP hK hD hS hl
  have hin : ∀ w ∈ u_ws RX1 TX1 11, w ∈ wsX1_traces := by decide +kernel
  have hl : lv_has ls 3 [(0, .ref g0)] := hl
  refine lv_iconst (v := (nI 0)) hx hb dX1_traces_0 (by decide) ?_
  refine lv_istore_n (lv' := [(1, .int (nI 0)), (0, .ref g0)]) hx hb dX1_traces_1 rfl hl (by decide) rfl (fun ls hl => ?_)
  refine lv_iconst (v := (nI 0)) hx hb dX1_traces_2 (by decide) ?_
  refine lv_istore_n (lv' := [(2, .int (nI 0)), (1, .int (nI 0)), (0, .ref g0)]) hx hb dX1_traces_3 rfl hl (by decide) rfl (fun ls hl => ?_)
  have hl : lv_has ls 3 [(2, .int (nI 0)), (1, .int (nI (rx_tr wr 0))), (0, .ref g0)] := by exact hl
  have lp : ∀ (k : Nat) (t : Nat), ∀ (_ : t + k = n), ∀ (H : Heap) (locs : List Loc) (ls : Array Slot), va_P (dC, dI) vwCl (wX1 cA g0 r1 r2 r3 r4 r5 ce w we wr nm n T cd off told wia) H → va_D A (wX1 cA g0 r1 r2 r3 r4 r5 ce w we wr nm n T cd off told wia) → va_S A s.heap H locs → lv_has ls 3 [(0, .ref g0), (1, .int (nI (rx_tr wr t))), (2, .int (nI t))] → W p l e (headSpec wsX1_traces ({ frames := 1, cells := 0, slots := 0, locals := 22 })).room s m ([.ref g0] : List Value).toArray below meth c H locs 0 0 (MQ below (va_Qi (fun (r' : Int32) (_ : Unit) => r' = (nI (rx_tr wr n))) (kB dC dI [(cA, .int)] (wX1 cA g0 r1 r2 r3 r4 r5 ce w we wr nm n T cd off told wia) A) A) ([.ref g0] : List Value).toArray s 0 0 A) (F0 m 4 ls []) := by
    intro k
    induction k with
    | zero =>
      intro t ht H locs ls hP hD hS hl
      refine lv_iload_n hx hb dX1_traces_4 rfl (lv_at hl 2 rfl) ?_
      refine lv_aload_n hx hb dX1_traces_5 rfl (lv_at hl 0 rfl) ?_
      refine va_get (D := (dC, dI)) (ci := 1) (v := .int (nI n)) (C := RX1) (T := TX1) (N := 11) hx hb hts hin hown hK hP 0 rfl rfl 6 (by decide) (hts (.fieldLink RX1 29 "NestCellsModel" "levels" "I") (by decide +kernel)) (fun _ h9 => h9) rfl dX1_traces_6 ?_
      refine kv_ge (tgt := 30) hx hb (by omega) (by omega) dX1_traces_9 (by decide) (fun h9_0 => ?_) (fun h9_0 => absurd h9_0 (by omega))
      refine lv_iload_n hx hb dX1_traces_30 rfl (lv_at hl 1 rfl) ?_
      exact kMi_ret hx hb hr hlocks hP hK hD hS dX1_traces_31 (by rw [show t = n by omega]) rfl
    | succ k ih =>
      intro t ht H locs ls hP hD hS hl
      refine lv_iload_n hx hb dX1_traces_4 rfl (lv_at hl 2 rfl) ?_
      refine lv_aload_n hx hb dX1_traces_5 rfl (lv_at hl 0 rfl) ?_
      refine va_get (D := (dC, dI)) (ci := 1) (v := .int (nI n)) (C := RX1) (T := TX1) (N := 11) hx hb hts hin hown hK hP 0 rfl rfl 6 (by decide) (hts (.fieldLink RX1 29 "NestCellsModel" "levels" "I") (by decide +kernel)) (fun _ h9 => h9) rfl dX1_traces_6 ?_
      refine kv_ge (tgt := 30) hx hb (by omega) (by omega) dX1_traces_9 (by decide) (fun h9_0 => absurd h9_0 (by omega)) (fun h9_0 => ?_)
      refine lv_iload_n hx hb dX1_traces_12 rfl (lv_at hl 1 rfl) ?_
      refine lv_aload_n hx hb dX1_traces_13 rfl (lv_at hl 0 rfl) ?_
      refine va_get (D := (dC, dI)) (ci := 1) (v := .ref r4) (C := RX1) (T := TX1) (N := 11) hx hb hts hin hown hK hP 0 rfl rfl 4 (by decide) (hts (.fieldLink RX1 19 "NestCellsModel" "written" "[I") (by decide +kernel)) (fun _ h9 => h9) rfl dX1_traces_14 ?_
      refine lv_iload_n hx hb dX1_traces_17 rfl (lv_at hl 2 rfl) ?_
      refine kv_iald hx hb hK hP 4 0 rfl rfl (by omega) (by omega) dX1_traces_18 ?_
      refine kv_Si (Xr := wX1 cA g0 r1 r2 r3 r4 r5 ce w we wr nm n T cd off told wia) (n := 1) (c_X1_bits l dC dI   (wr t) ) hx hb hml hown hts gX1_traces_X1_bits rfl ⟨rfl, rfl⟩ (by decide +kernel) rfl ⟨Nat.le_of_ble_eq_true rfl, Nat.le_of_ble_eq_true rfl⟩ hK hP hD hS hA [] [] [0, 1, 2, 3, 4, 5] rfl rfl rfl (by decide) (by decide) rfl (by decide) hl.1 rfl (Nat.le_of_ble_eq_true rfl) dX1_traces_19 ⟨Nat.zero_le _, Nat.zero_le _⟩ (fun H locs hP hD hS => ?_)
      have hP : va_P (dC, dI) vwCl (wX1 cA g0 r1 r2 r3 r4 r5 ce w we wr nm n T cd off told wia) H := hP
      have hD : va_D A (wX1 cA g0 r1 r2 r3 r4 r5 ce w we wr nm n T cd off told wia) := hD
      refine kv_addE (d := (rx_tr wr t) + (mo_bits (wr t) 32)) hx hb (by omega) dX1_traces_22 ?_
      refine lv_istore_n (lv' := [(1, .int (nI ((rx_tr wr t) + (mo_bits (wr t) 32)))), (0, .ref g0), (2, .int (nI t))]) hx hb dX1_traces_23 rfl hl (by decide) rfl (fun ls hl => ?_)
      refine lv_iinc (v := (nI (t + 1))) (lv' := [(2, .int (nI (t + 1))), (1, .int (nI ((rx_tr wr t) + (mo_bits (wr t) 32)))), (0, .ref g0)]) hx hb dX1_traces_24 hl (k := 2) rfl (kv_inc _ 1 (by decide)) (by decide) rfl (fun ls hl => ?_)
      refine lv_goto (tgt := 4) hx hb dX1_traces_27 (by decide) ?_
      have hl : lv_has ls 3 [(2, .int (nI (t + 1))), (1, .int (nI (rx_tr wr (t + 1)))), (0, .ref g0)] := by exact hl
      exact ih (t + 1) (by omega) _ _ _ hP hD hS (lv_sub hl [2, 1, 0] rfl)
  exact lp n 0 (by omega) _ _ _ hP hD hS (lv_sub hl [2, 1, 0] rfl)
set_option maxHeartbeats 4000000 in
set_option maxRecDepth 100000 in
/-- NestCellsModel.isCell  -/
theorem c_X1_isCell (l : Launch) (dC : Nat → ClassId) (dI : Nat → Nat → Nat)  (cell : Int32)  : kMi l yX1_isCell wsX1_isCell ({ frames := 0, cells := 0, slots := 0, locals := 0 }) dC dI [] [] [.int cell] (kx_isCell cell) [] := by
  refine kMi_of (cc := cX1_isCell) (maxL := 1) (ret := (some .boolean)) (by decide) rfl (Nat.le_of_ble_eq_true rfl) ?_
  intro p e s m below meth c A ls hx hb hml hr hts hown hlocks hA hP hK hD hS hl
  have hl : lv_has ls 1 [(0, .int cell)] := hl
  refine lv_iload_n hx hb dX1_isCell_0 rfl (lv_at hl 0 rfl) ?_
  refine lv_if_lt (tgt := 14) hx hb dX1_isCell_1 (by decide) (fun h1_0 => ?_) (fun h1_0 => ?_)
  · skip
    refine lv_iconst (v := (nI 0)) hx hb dX1_isCell_14 (by decide) ?_
    exact kMi_zret hx hb hr hlocks hP hK hD hS dX1_isCell_15 (by decide) (by simp [kx_isCell, h1_0]) rfl
  · skip
    refine lv_iload_n hx hb dX1_isCell_4 rfl (lv_at hl 0 rfl) ?_
    refine lv_bipush (v := (nI 32)) hx hb dX1_isCell_5 (by decide) ?_
    refine lv_icmp_ge (tgt := 14) hx hb dX1_isCell_7 (by decide) (fun h7_1 => ?_) (fun h7_1 => ?_)
    · skip
      refine lv_iconst (v := (nI 0)) hx hb dX1_isCell_14 (by decide) ?_
      exact kMi_zret hx hb hr hlocks hP hK hD hS dX1_isCell_15 (by decide) (by simp [kx_isCell, h1_0, h7_1]) rfl
    · skip
      refine lv_iconst (v := (nI 1)) hx hb dX1_isCell_10 (by decide) ?_
      refine lv_goto (tgt := 15) hx hb dX1_isCell_11 (by decide) ?_
      exact kMi_zret hx hb hr hlocks hP hK hD hS dX1_isCell_15 (by decide) (by simp [kx_isCell, h1_0, h7_1]) rfl
set_option maxHeartbeats 4000000 in
set_option maxRecDepth 100000 in
/-- NestCellsModel.refuses_0  -/
theorem c_X1_refuses_0 (l : Launch) (dC : Nat → ClassId) (dI : Nat → Nat → Nat) (cA : ClassId) (g0 r1 r2 r3 r4 r5 : Nat) (ce w we wr nm : Nat → Int32) (n T : Nat) (cd off told wia : Int32)   : kMi l yX1_refuses wsX1_refuses ({ frames := 0, cells := 0, slots := 0, locals := 0 }) dC dI [(cA, .int)] (wX1 cA g0 r1 r2 r3 r4 r5 ce w we wr nm n T cd off told wia) [.ref g0, .int (nI 0)] (nI 0) (wX1 cA g0 r1 r2 r3 r4 r5 ce w we wr nm n T (nI 0) off told wia) := by
  refine kMi_of (cc := cX1_refuses) (maxL := 2) (ret := (some .boolean)) (by decide) rfl (Nat.le_of_ble_eq_true rfl) ?_
  intro p e s m below meth c A ls hx hb hml hr hts hown hlocks hA hP hK hD hS hl
  have hin : ∀ w ∈ u_ws RX1 TX1 11, w ∈ wsX1_refuses := by decide +kernel
  have hl : lv_has ls 2 [(0, .ref g0), (1, .int (nI 0))] := hl
  refine lv_aload_n hx hb dX1_refuses_0 rfl (lv_at hl 0 rfl) ?_
  refine lv_iload_n hx hb dX1_refuses_1 rfl (lv_at hl 1 rfl) ?_
  refine va_put (D := (dC, dI)) (ci := 1) (v := .int (nI 0)) (ty := .int) (C := RX1) (T := TX1) (N := 11) hx hb hts hin tyX1 tyX1_ok nmX1 hown hK hP hD hS 0 rfl rfl 0 (by decide) (hts (.fieldLink RX1 25 "NestCellsModel" "code" "I") (by decide +kernel)) (fun _ h9 => h9) rfl (by decide +kernel) rfl rfl (Nat.le_of_ble_eq_true rfl) dX1_refuses_2 (fun H locs hP hD hS => ?_)
  have hP : va_P (dC, dI) vwCl (wX1 cA g0 r1 r2 r3 r4 r5 ce w we wr nm n T (nI 0) off told wia) H := hP
  have hD : va_D A (wX1 cA g0 r1 r2 r3 r4 r5 ce w we wr nm n T (nI 0) off told wia) := hD
  refine lv_iload_n hx hb dX1_refuses_5 rfl (lv_at hl 1 rfl) ?_
  refine kv_if_le (tgt := 13) hx hb (by omega) dX1_refuses_6 (by decide) (fun _ => ?_) (fun h9 => absurd h9 (by omega))
  refine lv_iconst (v := (nI 0)) hx hb dX1_refuses_13 (by decide) ?_
  exact kMi_zret hx hb hr hlocks hP hK hD hS dX1_refuses_14 (by decide) rfl rfl
set_option maxHeartbeats 4000000 in
set_option maxRecDepth 100000 in
/-- NestCellsModel.refuses_1  -/
theorem c_X1_refuses_1 (l : Launch) (dC : Nat → ClassId) (dI : Nat → Nat → Nat) (cA : ClassId) (g0 r1 r2 r3 r4 r5 : Nat) (ce w we wr nm : Nat → Int32) (n T : Nat) (cd off told wia : Int32)   : kMi l yX1_refuses wsX1_refuses ({ frames := 0, cells := 0, slots := 0, locals := 0 }) dC dI [(cA, .int)] (wX1 cA g0 r1 r2 r3 r4 r5 ce w we wr nm n T cd off told wia) [.ref g0, .int (nI 1)] (nI 1) (wX1 cA g0 r1 r2 r3 r4 r5 ce w we wr nm n T (nI 1) off told wia) := by
  refine kMi_of (cc := cX1_refuses) (maxL := 2) (ret := (some .boolean)) (by decide) rfl (Nat.le_of_ble_eq_true rfl) ?_
  intro p e s m below meth c A ls hx hb hml hr hts hown hlocks hA hP hK hD hS hl
  have hin : ∀ w ∈ u_ws RX1 TX1 11, w ∈ wsX1_refuses := by decide +kernel
  have hl : lv_has ls 2 [(0, .ref g0), (1, .int (nI 1))] := hl
  refine lv_aload_n hx hb dX1_refuses_0 rfl (lv_at hl 0 rfl) ?_
  refine lv_iload_n hx hb dX1_refuses_1 rfl (lv_at hl 1 rfl) ?_
  refine va_put (D := (dC, dI)) (ci := 1) (v := .int (nI 1)) (ty := .int) (C := RX1) (T := TX1) (N := 11) hx hb hts hin tyX1 tyX1_ok nmX1 hown hK hP hD hS 0 rfl rfl 0 (by decide) (hts (.fieldLink RX1 25 "NestCellsModel" "code" "I") (by decide +kernel)) (fun _ h9 => h9) rfl (by decide +kernel) rfl rfl (Nat.le_of_ble_eq_true rfl) dX1_refuses_2 (fun H locs hP hD hS => ?_)
  have hP : va_P (dC, dI) vwCl (wX1 cA g0 r1 r2 r3 r4 r5 ce w we wr nm n T (nI 1) off told wia) H := hP
  have hD : va_D A (wX1 cA g0 r1 r2 r3 r4 r5 ce w we wr nm n T (nI 1) off told wia) := hD
  refine lv_iload_n hx hb dX1_refuses_5 rfl (lv_at hl 1 rfl) ?_
  refine kv_if_le (tgt := 13) hx hb (by omega) dX1_refuses_6 (by decide) (fun h9 => absurd h9 (by omega)) (fun _ => ?_)
  refine lv_iconst (v := (nI 1)) hx hb dX1_refuses_9 (by decide) ?_
  refine lv_goto (tgt := 14) hx hb dX1_refuses_10 (by decide) ?_
  exact kMi_zret hx hb hr hlocks hP hK hD hS dX1_refuses_14 (by decide) rfl rfl
set_option maxHeartbeats 4000000 in
set_option maxRecDepth 100000 in
/-- NestCellsModel.refuses_2  -/
theorem c_X1_refuses_2 (l : Launch) (dC : Nat → ClassId) (dI : Nat → Nat → Nat) (cA : ClassId) (g0 r1 r2 r3 r4 r5 : Nat) (ce w we wr nm : Nat → Int32) (n T : Nat) (cd off told wia : Int32)   : kMi l yX1_refuses wsX1_refuses ({ frames := 0, cells := 0, slots := 0, locals := 0 }) dC dI [(cA, .int)] (wX1 cA g0 r1 r2 r3 r4 r5 ce w we wr nm n T cd off told wia) [.ref g0, .int (nI 2)] (nI 1) (wX1 cA g0 r1 r2 r3 r4 r5 ce w we wr nm n T (nI 2) off told wia) := by
  refine kMi_of (cc := cX1_refuses) (maxL := 2) (ret := (some .boolean)) (by decide) rfl (Nat.le_of_ble_eq_true rfl) ?_
  intro p e s m below meth c A ls hx hb hml hr hts hown hlocks hA hP hK hD hS hl
  have hin : ∀ w ∈ u_ws RX1 TX1 11, w ∈ wsX1_refuses := by decide +kernel
  have hl : lv_has ls 2 [(0, .ref g0), (1, .int (nI 2))] := hl
  refine lv_aload_n hx hb dX1_refuses_0 rfl (lv_at hl 0 rfl) ?_
  refine lv_iload_n hx hb dX1_refuses_1 rfl (lv_at hl 1 rfl) ?_
  refine va_put (D := (dC, dI)) (ci := 1) (v := .int (nI 2)) (ty := .int) (C := RX1) (T := TX1) (N := 11) hx hb hts hin tyX1 tyX1_ok nmX1 hown hK hP hD hS 0 rfl rfl 0 (by decide) (hts (.fieldLink RX1 25 "NestCellsModel" "code" "I") (by decide +kernel)) (fun _ h9 => h9) rfl (by decide +kernel) rfl rfl (Nat.le_of_ble_eq_true rfl) dX1_refuses_2 (fun H locs hP hD hS => ?_)
  have hP : va_P (dC, dI) vwCl (wX1 cA g0 r1 r2 r3 r4 r5 ce w we wr nm n T (nI 2) off told wia) H := hP
  have hD : va_D A (wX1 cA g0 r1 r2 r3 r4 r5 ce w we wr nm n T (nI 2) off told wia) := hD
  refine lv_iload_n hx hb dX1_refuses_5 rfl (lv_at hl 1 rfl) ?_
  refine kv_if_le (tgt := 13) hx hb (by omega) dX1_refuses_6 (by decide) (fun h9 => absurd h9 (by omega)) (fun _ => ?_)
  refine lv_iconst (v := (nI 1)) hx hb dX1_refuses_9 (by decide) ?_
  refine lv_goto (tgt := 14) hx hb dX1_refuses_10 (by decide) ?_
  exact kMi_zret hx hb hr hlocks hP hK hD hS dX1_refuses_14 (by decide) rfl rfl
set_option maxHeartbeats 4000000 in
set_option maxRecDepth 100000 in
/-- NestCellsModel.thrown  -/
theorem c_X1_thrown (l : Launch) (dC : Nat → ClassId) (dI : Nat → Nat → Nat) (cA : ClassId) (g0 r1 r2 r3 r4 r5 : Nat) (ce w we wr nm : Nat → Int32) (n T : Nat) (cd off told wia : Int32)   : kMi l yX1_thrown wsX1_thrown ({ frames := 0, cells := 0, slots := 0, locals := 0 }) dC dI [(cA, .int)] (wX1 cA g0 r1 r2 r3 r4 r5 ce w we wr nm n T cd off told wia) [.ref g0] cd (wX1 cA g0 r1 r2 r3 r4 r5 ce w we wr nm n T cd off told wia) := by
  refine kMi_of (cc := cX1_thrown) (maxL := 1) (ret := (some .int)) (by decide) rfl (Nat.le_of_ble_eq_true rfl) ?_
  intro p e s m below meth c A ls hx hb hml hr hts hown hlocks hA hP hK hD hS hl
  have hin : ∀ w ∈ u_ws RX1 TX1 11, w ∈ wsX1_thrown := by decide +kernel
  have hl : lv_has ls 1 [(0, .ref g0)] := hl
  refine lv_aload_n hx hb dX1_thrown_0 rfl (lv_at hl 0 rfl) ?_
  refine va_get (D := (dC, dI)) (ci := 1) (v := .int cd) (C := RX1) (T := TX1) (N := 11) hx hb hts hin hown hK hP 0 rfl rfl 0 (by decide) (hts (.fieldLink RX1 25 "NestCellsModel" "code" "I") (by decide +kernel)) (fun _ h9 => h9) rfl dX1_thrown_1 ?_
  exact kMi_ret hx hb hr hlocks hP hK hD hS dX1_thrown_4 rfl rfl
set_option maxHeartbeats 4000000 in
set_option maxRecDepth 100000 in
/-- NestCellsModel.opens  -/
theorem c_X1_opens (l : Launch) (dC : Nat → ClassId) (dI : Nat → Nat → Nat) (cA : ClassId) (g0 r1 r2 r3 r4 r5 : Nat) (ce w we wr nm : Nat → Int32) (n T : Nat) (cd off told wia : Int32) (name : Int32) (hn : n < 90) : kMv l yX1_opens wsX1_opens ({ frames := 0, cells := 0, slots := 0, locals := 0 }) dC dI [(cA, .int)] (wX1 cA g0 r1 r2 r3 r4 r5 ce w we wr nm n T cd off told wia) [.ref g0, .int name] (wX1 cA g0 r1 r2 r3 r4 r5 ce w (rx_op we ce n 32) (upd wr n (nI 0)) (upd nm n name) (n + 1) T cd off told wia) := by
  refine kMv_of (cc := cX1_opens) (maxL := 3) (ret := none) (by decide) rfl (Nat.le_of_ble_eq_true rfl) ?_
  intro p e s m below meth c A ls hx hb hml hr hts hown hlocks hA hP hK hD hS hl
  have hin : ∀ w ∈ u_ws RX1 TX1 11, w ∈ wsX1_opens := by decide +kernel
  have hl : lv_has ls 3 [(0, .ref g0), (1, .int name)] := hl
  refine lv_iconst (v := (nI 0)) hx hb dX1_opens_0 (by decide) ?_
  refine lv_istore_n (lv' := [(2, .int (nI 0)), (0, .ref g0), (1, .int name)]) hx hb dX1_opens_1 rfl hl (by decide) rfl (fun ls hl => ?_)
  have hP : va_P (dC, dI) vwCl (wX1 cA g0 r1 r2 r3 r4 r5 ce w (rx_op we ce n 0) wr nm n T cd off told wia) s.heap := by rw [rx_op_0]; exact hP
  have hD : va_D A (wX1 cA g0 r1 r2 r3 r4 r5 ce w (rx_op we ce n 0) wr nm n T cd off told wia) := by rw [rx_op_0]; exact hD
  have lp : ∀ (k : Nat) (t : Nat), ∀ (_ : t + k = 32), ∀ (H : Heap) (locs : List Loc) (ls : Array Slot), va_P (dC, dI) vwCl (wX1 cA g0 r1 r2 r3 r4 r5 ce w (rx_op we ce n t) wr nm n T cd off told wia) H → va_D A (wX1 cA g0 r1 r2 r3 r4 r5 ce w (rx_op we ce n t) wr nm n T cd off told wia) → va_S A s.heap H locs → lv_has ls 3 [(0, .ref g0), (1, .int name), (2, .int (nI t))] → W p l e (headSpec wsX1_opens ({ frames := 0, cells := 0, slots := 0, locals := 0 })).room s m ([.ref g0, .int name] : List Value).toArray below meth c H locs 0 0 (MQ below (va_Qv (fun (_ : Unit) => True) (kB dC dI [(cA, .int)] (wX1 cA g0 r1 r2 r3 r4 r5 ce w (rx_op we ce n 32) (upd wr n (nI 0)) (upd nm n name) (n + 1) T cd off told wia) A) A) ([.ref g0, .int name] : List Value).toArray s 0 0 A) (F0 m 2 ls []) := by
    intro k
    induction k with
    | zero =>
      intro t ht H locs ls hP hD hS hl
      refine lv_iload_n hx hb dX1_opens_2 rfl (lv_at hl 2 rfl) ?_
      refine lv_bipush (v := (nI 32)) hx hb dX1_opens_3 (by decide) ?_
      refine kv_ge (tgt := 34) hx hb (by omega) (by omega) dX1_opens_5 (by decide) (fun h5_0 => ?_) (fun h5_0 => absurd h5_0 (by omega))
      refine lv_aload_n hx hb dX1_opens_34 rfl (lv_at hl 0 rfl) ?_
      refine va_get (D := (dC, dI)) (ci := 1) (v := .ref r4) (C := RX1) (T := TX1) (N := 11) hx hb hts hin hown hK hP 0 rfl rfl 4 (by decide) (hts (.fieldLink RX1 19 "NestCellsModel" "written" "[I") (by decide +kernel)) (fun _ h9 => h9) rfl dX1_opens_35 ?_
      refine lv_aload_n hx hb dX1_opens_38 rfl (lv_at hl 0 rfl) ?_
      refine va_get (D := (dC, dI)) (ci := 1) (v := .int (nI n)) (C := RX1) (T := TX1) (N := 11) hx hb hts hin hown hK hP 0 rfl rfl 6 (by decide) (hts (.fieldLink RX1 29 "NestCellsModel" "levels" "I") (by decide +kernel)) (fun _ h9 => h9) rfl dX1_opens_39 ?_
      refine lv_iconst (v := (nI 0)) hx hb dX1_opens_42 (by decide) ?_
      refine kv_iast hx hb hK hP hD hS 4 0 rfl rfl (by omega) (by omega) dX1_opens_43 (fun H locs hP hD hS => ?_)
      have hP : va_P (dC, dI) vwCl (wX1 cA g0 r1 r2 r3 r4 r5 ce w (rx_op we ce n t) (upd wr n (nI 0)) nm n T cd off told wia) H := hP
      have hD : va_D A (wX1 cA g0 r1 r2 r3 r4 r5 ce w (rx_op we ce n t) (upd wr n (nI 0)) nm n T cd off told wia) := hD
      refine lv_aload_n hx hb dX1_opens_44 rfl (lv_at hl 0 rfl) ?_
      refine va_get (D := (dC, dI)) (ci := 1) (v := .ref r5) (C := RX1) (T := TX1) (N := 11) hx hb hts hin hown hK hP 0 rfl rfl 5 (by decide) (hts (.fieldLink RX1 22 "NestCellsModel" "names" "[I") (by decide +kernel)) (fun _ h9 => h9) rfl dX1_opens_45 ?_
      refine lv_aload_n hx hb dX1_opens_48 rfl (lv_at hl 0 rfl) ?_
      refine va_get (D := (dC, dI)) (ci := 1) (v := .int (nI n)) (C := RX1) (T := TX1) (N := 11) hx hb hts hin hown hK hP 0 rfl rfl 6 (by decide) (hts (.fieldLink RX1 29 "NestCellsModel" "levels" "I") (by decide +kernel)) (fun _ h9 => h9) rfl dX1_opens_49 ?_
      refine lv_iload_n hx hb dX1_opens_52 rfl (lv_at hl 1 rfl) ?_
      refine kv_iast hx hb hK hP hD hS 5 0 rfl rfl (by omega) (by omega) dX1_opens_53 (fun H locs hP hD hS => ?_)
      have hP : va_P (dC, dI) vwCl (wX1 cA g0 r1 r2 r3 r4 r5 ce w (rx_op we ce n t) (upd wr n (nI 0)) (upd nm n name) n T cd off told wia) H := hP
      have hD : va_D A (wX1 cA g0 r1 r2 r3 r4 r5 ce w (rx_op we ce n t) (upd wr n (nI 0)) (upd nm n name) n T cd off told wia) := hD
      refine lv_aload_n hx hb dX1_opens_54 rfl (lv_at hl 0 rfl) ?_
      refine lv_dup hx hb dX1_opens_55 rfl ?_
      refine va_get (D := (dC, dI)) (ci := 1) (v := .int (nI n)) (C := RX1) (T := TX1) (N := 11) hx hb hts hin hown hK hP 0 rfl rfl 6 (by decide) (hts (.fieldLink RX1 29 "NestCellsModel" "levels" "I") (by decide +kernel)) (fun _ h9 => h9) rfl dX1_opens_56 ?_
      refine lv_iconst (v := (nI 1)) hx hb dX1_opens_59 (by decide) ?_
      refine kv_addE (d := n + 1) hx hb (by omega) dX1_opens_60 ?_
      refine va_put (D := (dC, dI)) (ci := 1) (v := .int (nI (n + 1))) (ty := .int) (C := RX1) (T := TX1) (N := 11) hx hb hts hin tyX1 tyX1_ok nmX1 hown hK hP hD hS 0 rfl rfl 6 (by decide) (hts (.fieldLink RX1 29 "NestCellsModel" "levels" "I") (by decide +kernel)) (fun _ h9 => h9) rfl (by decide +kernel) rfl rfl (Nat.le_of_ble_eq_true rfl) dX1_opens_61 (fun H locs hP hD hS => ?_)
      have hP : va_P (dC, dI) vwCl (wX1 cA g0 r1 r2 r3 r4 r5 ce w (rx_op we ce n t) (upd wr n (nI 0)) (upd nm n name) (n + 1) T cd off told wia) H := hP
      have hD : va_D A (wX1 cA g0 r1 r2 r3 r4 r5 ce w (rx_op we ce n t) (upd wr n (nI 0)) (upd nm n name) (n + 1) T cd off told wia) := hD
      exact kMv_ret hx hb hr hlocks hP hK hD hS dX1_opens_64 (by rw [show t = 32 by omega])
    | succ k ih =>
      intro t ht H locs ls hP hD hS hl
      refine lv_iload_n hx hb dX1_opens_2 rfl (lv_at hl 2 rfl) ?_
      refine lv_bipush (v := (nI 32)) hx hb dX1_opens_3 (by decide) ?_
      refine kv_ge (tgt := 34) hx hb (by omega) (by omega) dX1_opens_5 (by decide) (fun h5_0 => absurd h5_0 (by omega)) (fun h5_0 => ?_)
      refine lv_aload_n hx hb dX1_opens_8 rfl (lv_at hl 0 rfl) ?_
      refine va_get (D := (dC, dI)) (ci := 1) (v := .ref r3) (C := RX1) (T := TX1) (N := 11) hx hb hts hin hown hK hP 0 rfl rfl 3 (by decide) (hts (.fieldLink RX1 16 "NestCellsModel" "were" "[I") (by decide +kernel)) (fun _ h9 => h9) rfl dX1_opens_9 ?_
      refine lv_bipush (v := (nI 32)) hx hb dX1_opens_12 (by decide) ?_
      refine lv_aload_n hx hb dX1_opens_14 rfl (lv_at hl 0 rfl) ?_
      refine va_get (D := (dC, dI)) (ci := 1) (v := .int (nI n)) (C := RX1) (T := TX1) (N := 11) hx hb hts hin hown hK hP 0 rfl rfl 6 (by decide) (hts (.fieldLink RX1 29 "NestCellsModel" "levels" "I") (by decide +kernel)) (fun _ h9 => h9) rfl dX1_opens_15 ?_
      refine kv_mul hx hb dX1_opens_18 ?_
      refine lv_iload_n hx hb dX1_opens_19 rfl (lv_at hl 2 rfl) ?_
      refine kv_addE (d := (32 * n) + t) hx hb (by omega) dX1_opens_20 ?_
      refine lv_aload_n hx hb dX1_opens_21 rfl (lv_at hl 0 rfl) ?_
      refine va_get (D := (dC, dI)) (ci := 1) (v := .ref r1) (C := RX1) (T := TX1) (N := 11) hx hb hts hin hown hK hP 0 rfl rfl 1 (by decide) (hts (.fieldLink RX1 7 "NestCellsModel" "cells" "[I") (by decide +kernel)) (fun _ h9 => h9) rfl dX1_opens_22 ?_
      refine lv_iload_n hx hb dX1_opens_25 rfl (lv_at hl 2 rfl) ?_
      refine kv_iald hx hb hK hP 1 0 rfl rfl (by omega) (by omega) dX1_opens_26 ?_
      refine kv_iast hx hb hK hP hD hS 3 0 rfl rfl (by omega) (by omega) dX1_opens_27 (fun H locs hP hD hS => ?_)
      have hP : va_P (dC, dI) vwCl (wX1 cA g0 r1 r2 r3 r4 r5 ce w (upd (rx_op we ce n t) ((32 * n) + t) (ce t)) wr nm n T cd off told wia) H := hP
      have hD : va_D A (wX1 cA g0 r1 r2 r3 r4 r5 ce w (upd (rx_op we ce n t) ((32 * n) + t) (ce t)) wr nm n T cd off told wia) := hD
      refine lv_iinc (v := (nI (t + 1))) (lv' := [(2, .int (nI (t + 1))), (0, .ref g0), (1, .int name)]) hx hb dX1_opens_28 hl (k := 2) rfl (kv_inc _ 1 (by decide)) (by decide) rfl (fun ls hl => ?_)
      refine lv_goto (tgt := 2) hx hb dX1_opens_31 (by decide) ?_
      have hP : va_P (dC, dI) vwCl (wX1 cA g0 r1 r2 r3 r4 r5 ce w (rx_op we ce n (t + 1)) wr nm n T cd off told wia) H := by rw [← rx_op_s]; exact hP
      have hD : va_D A (wX1 cA g0 r1 r2 r3 r4 r5 ce w (rx_op we ce n (t + 1)) wr nm n T cd off told wia) := by rw [← rx_op_s]; exact hD
      exact ih (t + 1) (by omega) _ _ _ hP hD hS (lv_sub hl [1, 2, 0] rfl)
  exact lp 32 0 (by omega) _ _ _ hP hD hS (lv_sub hl [1, 2, 0] rfl)
set_option maxHeartbeats 4000000 in
set_option maxRecDepth 100000 in
/-- NestCellsModel.first  -/
theorem c_X1_first (l : Launch) (dC : Nat → ClassId) (dI : Nat → Nat → Nat) (cA : ClassId) (g0 r1 r2 r3 r4 r5 : Nat) (ce w we wr nm : Nat → Int32) (n T : Nat) (cd off told wia : Int32)  (hn : n ≤ 90) (hj : 1 ≤ kx_inn nm n) : kMi l yX1_first wsX1_first ({ frames := 0, cells := 0, slots := 0, locals := 0 }) dC dI [(cA, .int)] (wX1 cA g0 r1 r2 r3 r4 r5 ce w we wr nm n T cd off told wia) [.ref g0] (nI (kx_inn nm n - 1)) (wX1 cA g0 r1 r2 r3 r4 r5 ce w we wr nm n T cd off told wia) := by
  refine kMi_of (cc := cX1_first) (maxL := 2) (ret := (some .int)) (by decide) rfl (Nat.le_of_ble_eq_true rfl) ?_
  intro p e s m below meth c A ls hx hb hml hr hts hown hlocks hA hP hK hD hS hl
  have hin : ∀ w ∈ u_ws RX1 TX1 11, w ∈ wsX1_first := by decide +kernel
  have hl : lv_has ls 2 [(0, .ref g0)] := hl
  have hjn := kx_inn_le nm n
  refine lv_aload_n hx hb dX1_first_0 rfl (lv_at hl 0 rfl) ?_
  refine va_get (D := (dC, dI)) (ci := 1) (v := .int (nI n)) (C := RX1) (T := TX1) (N := 11) hx hb hts hin hown hK hP 0 rfl rfl 6 (by decide) (hts (.fieldLink RX1 29 "NestCellsModel" "levels" "I") (by decide +kernel)) (fun _ h9 => h9) rfl dX1_first_1 ?_
  refine lv_iconst (v := (nI 1)) hx hb dX1_first_4 (by decide) ?_
  refine kv_subE (d := n - 1) hx hb (by omega) dX1_first_5 ?_
  refine lv_istore_n (lv' := [(1, .int (nI (n - 1))), (0, .ref g0)]) hx hb dX1_first_6 rfl hl (by decide) rfl (fun ls hl => ?_)
  have lp : ∀ (k : Nat) (i : Nat), ∀ (_ : i + 1 = kx_inn nm n + k), ∀ (_ : i < n), ∀ (_ : kx_inn nm (i + 1) = kx_inn nm n), ∀ (H : Heap) (locs : List Loc) (ls : Array Slot), va_P (dC, dI) vwCl (wX1 cA g0 r1 r2 r3 r4 r5 ce w we wr nm n T cd off told wia) H → va_D A (wX1 cA g0 r1 r2 r3 r4 r5 ce w we wr nm n T cd off told wia) → va_S A s.heap H locs → lv_has ls 2 [(0, .ref g0), (1, .int (nI i))] → W p l e (headSpec wsX1_first ({ frames := 0, cells := 0, slots := 0, locals := 0 })).room s m ([.ref g0] : List Value).toArray below meth c H locs 0 0 (MQ below (va_Qi (fun (r' : Int32) (_ : Unit) => r' = (nI (kx_inn nm n - 1))) (kB dC dI [(cA, .int)] (wX1 cA g0 r1 r2 r3 r4 r5 ce w we wr nm n T cd off told wia) A) A) ([.ref g0] : List Value).toArray s 0 0 A) (F0 m 7 ls []) := by
    intro k
    induction k with
    | zero =>
      intro i hk hin8 he H locs ls hP hD hS hl
      have hii := kx_inn_le nm i
      have hjn := kx_inn_le nm n
      refine lv_aload_n hx hb dX1_first_7 rfl (lv_at hl 0 rfl) ?_
      refine va_get (D := (dC, dI)) (ci := 1) (v := .ref r5) (C := RX1) (T := TX1) (N := 11) hx hb hts hin hown hK hP 0 rfl rfl 5 (by decide) (hts (.fieldLink RX1 22 "NestCellsModel" "names" "[I") (by decide +kernel)) (fun _ h9 => h9) rfl dX1_first_8 ?_
      refine lv_iload_n hx hb dX1_first_11 rfl (lv_at hl 1 rfl) ?_
      refine kv_iald hx hb hK hP 5 0 rfl rfl (by omega) (by omega) dX1_first_12 ?_
      refine lv_iconst (v := (-1)) hx hb dX1_first_13 (by decide) ?_
      refine lv_icmp_eq (tgt := 23) hx hb dX1_first_14 (by decide) (fun h14_0 => ?_) (fun h14_0 => (((by have h9 := rx_inn_next h14_0; omega)) : False).elim)
      refine lv_iload_n hx hb dX1_first_23 rfl (lv_at hl 1 rfl) ?_
      exact kMi_ret hx hb hr hlocks hP hK hD hS dX1_first_24 (by rw [← he, rx_inn_here h14_0]; rfl) rfl
    | succ k ih =>
      intro i hk hin8 he H locs ls hP hD hS hl
      have hii := kx_inn_le nm i
      have hjn := kx_inn_le nm n
      refine lv_aload_n hx hb dX1_first_7 rfl (lv_at hl 0 rfl) ?_
      refine va_get (D := (dC, dI)) (ci := 1) (v := .ref r5) (C := RX1) (T := TX1) (N := 11) hx hb hts hin hown hK hP 0 rfl rfl 5 (by decide) (hts (.fieldLink RX1 22 "NestCellsModel" "names" "[I") (by decide +kernel)) (fun _ h9 => h9) rfl dX1_first_8 ?_
      refine lv_iload_n hx hb dX1_first_11 rfl (lv_at hl 1 rfl) ?_
      refine kv_iald hx hb hK hP 5 0 rfl rfl (by omega) (by omega) dX1_first_12 ?_
      refine lv_iconst (v := (-1)) hx hb dX1_first_13 (by decide) ?_
      refine lv_icmp_eq (tgt := 23) hx hb dX1_first_14 (by decide) (fun h14_0 => ?_) (fun h14_0 => ?_)
      · skip
        refine lv_iload_n hx hb dX1_first_23 rfl (lv_at hl 1 rfl) ?_
        exact kMi_ret hx hb hr hlocks hP hK hD hS dX1_first_24 (by rw [← he, rx_inn_here h14_0]; rfl) rfl
      · skip
        have h9 := rx_inn_next h14_0
        refine lv_iinc (v := (nI (i - 1))) (lv' := [(1, .int (nI (i - 1))), (0, .ref g0)]) hx hb dX1_first_17 hl (k := 1) rfl (kv_dec _ (by decide) (by omega)) (by decide) rfl (fun ls hl => ?_)
        refine lv_goto (tgt := 7) hx hb dX1_first_20 (by decide) ?_
        exact ih (i - 1) (by omega) (by omega) (by rw [show i - 1 + 1 = i by omega]; omega) _ _ _ hP hD hS (lv_sub hl [1, 0] rfl)
  exact lp (n - kx_inn nm n) (n - 1) (by omega) (by omega) (by rw [show n - 1 + 1 = n by omega]) _ _ _ hP hD hS (lv_sub hl [1, 0] rfl)
set_option maxHeartbeats 4000000 in
set_option maxRecDepth 100000 in
/-- NestCellsModel.find  -/
theorem c_X1_find (l : Launch) (dC : Nat → ClassId) (dI : Nat → Nat → Nat) (cA : ClassId) (g0 r1 r2 r3 r4 r5 : Nat) (ce w we wr nm : Nat → Int32) (n T : Nat) (cd off told wia : Int32) (name : Int32) (hn : n ≤ 90) (hj : 1 ≤ kx_inn nm n) (hnm : ¬ name = (-1)) : kMi l yX1_find wsX1_find ({ frames := 0, cells := 0, slots := 0, locals := 0 }) dC dI [(cA, .int)] (wX1 cA g0 r1 r2 r3 r4 r5 ce w we wr nm n T cd off told wia) [.ref g0, .int name] (nI (kx_pl nm name (kx_inn nm n) n) - nI 1) (wX1 cA g0 r1 r2 r3 r4 r5 ce w we wr nm n T cd off told wia) := by
  refine kMi_of (cc := cX1_find) (maxL := 3) (ret := (some .int)) (by decide) rfl (Nat.le_of_ble_eq_true rfl) ?_
  intro p e s m below meth c A ls hx hb hml hr hts hown hlocks hA hP hK hD hS hl
  have hin : ∀ w ∈ u_ws RX1 TX1 11, w ∈ wsX1_find := by decide +kernel
  have hl : lv_has ls 3 [(0, .ref g0), (1, .int name)] := hl
  have hjn := kx_inn_le nm n
  refine lv_aload_n hx hb dX1_find_0 rfl (lv_at hl 0 rfl) ?_
  refine va_get (D := (dC, dI)) (ci := 1) (v := .int (nI n)) (C := RX1) (T := TX1) (N := 11) hx hb hts hin hown hK hP 0 rfl rfl 6 (by decide) (hts (.fieldLink RX1 29 "NestCellsModel" "levels" "I") (by decide +kernel)) (fun _ h9 => h9) rfl dX1_find_1 ?_
  refine lv_iconst (v := (nI 1)) hx hb dX1_find_4 (by decide) ?_
  refine kv_subE (d := n - 1) hx hb (by omega) dX1_find_5 ?_
  refine lv_istore_n (lv' := [(2, .int (nI (n - 1))), (0, .ref g0), (1, .int name)]) hx hb dX1_find_6 rfl hl (by decide) rfl (fun ls hl => ?_)
  have lp : ∀ (k : Nat) (i : Nat), ∀ (_ : i + 1 = kx_inn nm n + k), ∀ (_ : i < n), ∀ (_ : kx_inn nm (i + 1) = kx_inn nm n), ∀ (_ : kx_pl nm name (kx_inn nm n) (i + 1) = kx_pl nm name (kx_inn nm n) n), ∀ (H : Heap) (locs : List Loc) (ls : Array Slot), va_P (dC, dI) vwCl (wX1 cA g0 r1 r2 r3 r4 r5 ce w we wr nm n T cd off told wia) H → va_D A (wX1 cA g0 r1 r2 r3 r4 r5 ce w we wr nm n T cd off told wia) → va_S A s.heap H locs → lv_has ls 3 [(0, .ref g0), (1, .int name), (2, .int (nI i))] → W p l e (headSpec wsX1_find ({ frames := 0, cells := 0, slots := 0, locals := 0 })).room s m ([.ref g0, .int name] : List Value).toArray below meth c H locs 0 0 (MQ below (va_Qi (fun (r' : Int32) (_ : Unit) => r' = (nI (kx_pl nm name (kx_inn nm n) n) - nI 1)) (kB dC dI [(cA, .int)] (wX1 cA g0 r1 r2 r3 r4 r5 ce w we wr nm n T cd off told wia) A) A) ([.ref g0, .int name] : List Value).toArray s 0 0 A) (F0 m 7 ls []) := by
    intro k
    induction k with
    | zero =>
      intro i hk hin8 he hp H locs ls hP hD hS hl
      have hii := kx_inn_le nm i
      have hjn := kx_inn_le nm n
      refine lv_aload_n hx hb dX1_find_7 rfl (lv_at hl 0 rfl) ?_
      refine va_get (D := (dC, dI)) (ci := 1) (v := .ref r5) (C := RX1) (T := TX1) (N := 11) hx hb hts hin hown hK hP 0 rfl rfl 5 (by decide) (hts (.fieldLink RX1 22 "NestCellsModel" "names" "[I") (by decide +kernel)) (fun _ h9 => h9) rfl dX1_find_8 ?_
      refine lv_iload_n hx hb dX1_find_11 rfl (lv_at hl 2 rfl) ?_
      refine kv_iald hx hb hK hP 5 0 rfl rfl (by omega) (by omega) dX1_find_12 ?_
      refine lv_iconst (v := (-1)) hx hb dX1_find_13 (by decide) ?_
      refine lv_icmp_eq (tgt := 33) hx hb dX1_find_14 (by decide) (fun h14_0 => ?_) (fun h14_0 => (((by have h9 := rx_inn_next h14_0; omega)) : False).elim)
      refine lv_aload_n hx hb dX1_find_33 rfl (lv_at hl 0 rfl) ?_
      refine va_get (D := (dC, dI)) (ci := 1) (v := .ref r5) (C := RX1) (T := TX1) (N := 11) hx hb hts hin hown hK hP 0 rfl rfl 5 (by decide) (hts (.fieldLink RX1 22 "NestCellsModel" "names" "[I") (by decide +kernel)) (fun _ h9 => h9) rfl dX1_find_34 ?_
      refine lv_iload_n hx hb dX1_find_37 rfl (lv_at hl 2 rfl) ?_
      refine kv_iald hx hb hK hP 5 0 rfl rfl (by omega) (by omega) dX1_find_38 ?_
      refine lv_iload_n hx hb dX1_find_39 rfl (lv_at hl 1 rfl) ?_
      refine lv_icmp_ne (tgt := 47) hx hb dX1_find_40 (by decide) (fun h40_0 => ?_) (fun h40_0 => (((hnm (h40_0.symm.trans h14_0))) : False).elim)
      refine lv_iconst (v := (-1)) hx hb dX1_find_47 (by decide) ?_
      exact kMi_ret hx hb hr hlocks hP hK hD hS dX1_find_48 (by rw [← hp, kx_pl, if_pos (by rw [← he, rx_inn_here h14_0]; exact Nat.le_refl _)]; exact kv_m1.symm) rfl
    | succ k ih =>
      intro i hk hin8 he hp H locs ls hP hD hS hl
      have hii := kx_inn_le nm i
      have hjn := kx_inn_le nm n
      refine lv_aload_n hx hb dX1_find_7 rfl (lv_at hl 0 rfl) ?_
      refine va_get (D := (dC, dI)) (ci := 1) (v := .ref r5) (C := RX1) (T := TX1) (N := 11) hx hb hts hin hown hK hP 0 rfl rfl 5 (by decide) (hts (.fieldLink RX1 22 "NestCellsModel" "names" "[I") (by decide +kernel)) (fun _ h9 => h9) rfl dX1_find_8 ?_
      refine lv_iload_n hx hb dX1_find_11 rfl (lv_at hl 2 rfl) ?_
      refine kv_iald hx hb hK hP 5 0 rfl rfl (by omega) (by omega) dX1_find_12 ?_
      refine lv_iconst (v := (-1)) hx hb dX1_find_13 (by decide) ?_
      refine lv_icmp_eq (tgt := 33) hx hb dX1_find_14 (by decide) (fun h14_0 => ?_) (fun h14_0 => ?_)
      · skip
        refine lv_aload_n hx hb dX1_find_33 rfl (lv_at hl 0 rfl) ?_
        refine va_get (D := (dC, dI)) (ci := 1) (v := .ref r5) (C := RX1) (T := TX1) (N := 11) hx hb hts hin hown hK hP 0 rfl rfl 5 (by decide) (hts (.fieldLink RX1 22 "NestCellsModel" "names" "[I") (by decide +kernel)) (fun _ h9 => h9) rfl dX1_find_34 ?_
        refine lv_iload_n hx hb dX1_find_37 rfl (lv_at hl 2 rfl) ?_
        refine kv_iald hx hb hK hP 5 0 rfl rfl (by omega) (by omega) dX1_find_38 ?_
        refine lv_iload_n hx hb dX1_find_39 rfl (lv_at hl 1 rfl) ?_
        refine lv_icmp_ne (tgt := 47) hx hb dX1_find_40 (by decide) (fun h40_1 => ?_) (fun h40_1 => (((hnm (h40_1.symm.trans h14_0))) : False).elim)
        refine lv_iconst (v := (-1)) hx hb dX1_find_47 (by decide) ?_
        exact kMi_ret hx hb hr hlocks hP hK hD hS dX1_find_48 (by rw [← hp, kx_pl, if_pos (by rw [← he, rx_inn_here h14_0]; exact Nat.le_refl _)]; exact kv_m1.symm) rfl
      · skip
        have h9 := rx_inn_next h14_0
        refine lv_aload_n hx hb dX1_find_17 rfl (lv_at hl 0 rfl) ?_
        refine va_get (D := (dC, dI)) (ci := 1) (v := .ref r5) (C := RX1) (T := TX1) (N := 11) hx hb hts hin hown hK hP 0 rfl rfl 5 (by decide) (hts (.fieldLink RX1 22 "NestCellsModel" "names" "[I") (by decide +kernel)) (fun _ h9 => h9) rfl dX1_find_18 ?_
        refine lv_iload_n hx hb dX1_find_21 rfl (lv_at hl 2 rfl) ?_
        refine kv_iald hx hb hK hP 5 0 rfl rfl (by omega) (by omega) dX1_find_22 ?_
        refine lv_iload_n hx hb dX1_find_23 rfl (lv_at hl 1 rfl) ?_
        refine lv_icmp_eq (tgt := 33) hx hb dX1_find_24 (by decide) (fun h24_1 => ?_) (fun h24_1 => ?_)
        · skip
          refine lv_aload_n hx hb dX1_find_33 rfl (lv_at hl 0 rfl) ?_
          refine va_get (D := (dC, dI)) (ci := 1) (v := .ref r5) (C := RX1) (T := TX1) (N := 11) hx hb hts hin hown hK hP 0 rfl rfl 5 (by decide) (hts (.fieldLink RX1 22 "NestCellsModel" "names" "[I") (by decide +kernel)) (fun _ h9 => h9) rfl dX1_find_34 ?_
          refine lv_iload_n hx hb dX1_find_37 rfl (lv_at hl 2 rfl) ?_
          refine kv_iald hx hb hK hP 5 0 rfl rfl (by omega) (by omega) dX1_find_38 ?_
          refine lv_iload_n hx hb dX1_find_39 rfl (lv_at hl 1 rfl) ?_
          refine lv_icmp_ne (tgt := 47) hx hb dX1_find_40 (by decide) (fun h40_2 => absurd h40_2 (fun q => q h24_1)) (fun h40_2 => ?_)
          refine lv_iload_n hx hb dX1_find_43 rfl (lv_at hl 2 rfl) ?_
          refine lv_goto (tgt := 48) hx hb dX1_find_44 (by decide) ?_
          exact kMi_ret hx hb hr hlocks hP hK hD hS dX1_find_48 (by rw [← hp, kx_pl, if_neg (by omega), if_pos h24_1, kv_pred]) rfl
        · skip
          refine lv_iinc (v := (nI (i - 1))) (lv' := [(2, .int (nI (i - 1))), (0, .ref g0), (1, .int name)]) hx hb dX1_find_27 hl (k := 2) rfl (kv_dec _ (by decide) (by omega)) (by decide) rfl (fun ls hl => ?_)
          refine lv_goto (tgt := 7) hx hb dX1_find_30 (by decide) ?_
          exact ih (i - 1) (by omega) (by omega) (by rw [show i - 1 + 1 = i by omega]; omega) (by rw [show i - 1 + 1 = i by omega, ← hp, kx_pl, if_neg (by omega), if_neg h24_1]) _ _ _ hP hD hS (lv_sub hl [1, 2, 0] rfl)
  exact lp (n - kx_inn nm n) (n - 1) (by omega) (by omega) (by rw [show n - 1 + 1 = n by omega]) (by rw [show n - 1 + 1 = n by omega]) _ _ _ hP hD hS (lv_sub hl [1, 2, 0] rfl)
