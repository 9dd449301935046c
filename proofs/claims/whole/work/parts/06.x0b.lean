set_option maxHeartbeats 4000000 in
set_option maxRecDepth 100000 in
/-- J6.bitCount_0f7a4  -/
theorem c_J6_bitCount_0f7a4 (l : Launch) (dC : Nat → ClassId) (dI : Nat → Nat → Nat)  (x : Int32)  : kMi l yJ6_bitCount_0f7a4 wsJ6_bitCount_0f7a4 ({ frames := 0, cells := 0, slots := 0, locals := 0 }) dC dI [] [] [.int x] (kx_bc x) [] := by
  refine kMi_of (cc := cJ6_bitCount_0f7a4) (maxL := 1) (ret := (some .int)) (by decide) rfl (Nat.le_of_ble_eq_true rfl) ?_
  intro p e s m below meth c A ls hx hb hml hr hts hown hlocks hA hP hK hD hS hl
  have hl : lv_has ls 1 [(0, .int x)] := hl
  refine lv_iload_n hx hb dJ6_bitCount_0f7a4_0 rfl (lv_at hl 0 rfl) ?_
  refine lv_iload_n hx hb dJ6_bitCount_0f7a4_1 rfl (lv_at hl 0 rfl) ?_
  refine lv_iconst (v := (nI 1)) hx hb dJ6_bitCount_0f7a4_2 (by decide) ?_
  refine lv_iushr (v := (x.toUInt32 >>> ((nI 1).toUInt32 &&& Int32.toUInt32 31)).toInt32) hx hb dJ6_bitCount_0f7a4_3 rfl ?_
  refine lv_ldcw (own := RJ6) (v := 1431655765) hx hb hown (hts (.constant RJ6 265 (1431655765)) (by decide +kernel)) dJ6_bitCount_0f7a4_4 ?_
  refine lv_iand hx hb dJ6_bitCount_0f7a4_7 ?_
  refine lv_isub hx hb dJ6_bitCount_0f7a4_8 ?_
  refine lv_topi (fun a1 ea1 => ?_)
  refine lv_istore_n (lv' := [(0, .int a1)]) hx hb dJ6_bitCount_0f7a4_9 rfl hl (by decide) rfl (fun ls hl => ?_)
  refine lv_iload_n hx hb dJ6_bitCount_0f7a4_10 rfl (lv_at hl 0 rfl) ?_
  refine lv_ldcw (own := RJ6) (v := 858993459) hx hb hown (hts (.constant RJ6 266 (858993459)) (by decide +kernel)) dJ6_bitCount_0f7a4_11 ?_
  refine lv_iand hx hb dJ6_bitCount_0f7a4_14 ?_
  refine lv_iload_n hx hb dJ6_bitCount_0f7a4_15 rfl (lv_at hl 0 rfl) ?_
  refine lv_iconst (v := (nI 2)) hx hb dJ6_bitCount_0f7a4_16 (by decide) ?_
  refine lv_iushr (v := (a1.toUInt32 >>> ((nI 2).toUInt32 &&& Int32.toUInt32 31)).toInt32) hx hb dJ6_bitCount_0f7a4_17 rfl ?_
  refine lv_ldcw (own := RJ6) (v := 858993459) hx hb hown (hts (.constant RJ6 266 (858993459)) (by decide +kernel)) dJ6_bitCount_0f7a4_18 ?_
  refine lv_iand hx hb dJ6_bitCount_0f7a4_21 ?_
  refine lv_iadd hx hb dJ6_bitCount_0f7a4_22 ?_
  refine lv_topi (fun a2 ea2 => ?_)
  refine lv_istore_n (lv' := [(0, .int a2)]) hx hb dJ6_bitCount_0f7a4_23 rfl hl (by decide) rfl (fun ls hl => ?_)
  refine lv_iload_n hx hb dJ6_bitCount_0f7a4_24 rfl (lv_at hl 0 rfl) ?_
  refine lv_iload_n hx hb dJ6_bitCount_0f7a4_25 rfl (lv_at hl 0 rfl) ?_
  refine lv_iconst (v := (nI 4)) hx hb dJ6_bitCount_0f7a4_26 (by decide) ?_
  refine lv_iushr (v := (a2.toUInt32 >>> ((nI 4).toUInt32 &&& Int32.toUInt32 31)).toInt32) hx hb dJ6_bitCount_0f7a4_27 rfl ?_
  refine lv_iadd hx hb dJ6_bitCount_0f7a4_28 ?_
  refine lv_ldcw (own := RJ6) (v := 252645135) hx hb hown (hts (.constant RJ6 267 (252645135)) (by decide +kernel)) dJ6_bitCount_0f7a4_29 ?_
  refine lv_iand hx hb dJ6_bitCount_0f7a4_32 ?_
  refine lv_topi (fun a3 ea3 => ?_)
  refine lv_istore_n (lv' := [(0, .int a3)]) hx hb dJ6_bitCount_0f7a4_33 rfl hl (by decide) rfl (fun ls hl => ?_)
  refine lv_iload_n hx hb dJ6_bitCount_0f7a4_34 rfl (lv_at hl 0 rfl) ?_
  refine lv_iload_n hx hb dJ6_bitCount_0f7a4_35 rfl (lv_at hl 0 rfl) ?_
  refine lv_bipush (v := (nI 8)) hx hb dJ6_bitCount_0f7a4_36 (by decide) ?_
  refine lv_iushr (v := (a3.toUInt32 >>> ((nI 8).toUInt32 &&& Int32.toUInt32 31)).toInt32) hx hb dJ6_bitCount_0f7a4_38 rfl ?_
  refine lv_iadd hx hb dJ6_bitCount_0f7a4_39 ?_
  refine lv_topi (fun a4 ea4 => ?_)
  refine lv_istore_n (lv' := [(0, .int a4)]) hx hb dJ6_bitCount_0f7a4_40 rfl hl (by decide) rfl (fun ls hl => ?_)
  refine lv_iload_n hx hb dJ6_bitCount_0f7a4_41 rfl (lv_at hl 0 rfl) ?_
  refine lv_iload_n hx hb dJ6_bitCount_0f7a4_42 rfl (lv_at hl 0 rfl) ?_
  refine lv_bipush (v := (nI 16)) hx hb dJ6_bitCount_0f7a4_43 (by decide) ?_
  refine lv_iushr (v := (a4.toUInt32 >>> ((nI 16).toUInt32 &&& Int32.toUInt32 31)).toInt32) hx hb dJ6_bitCount_0f7a4_45 rfl ?_
  refine lv_iadd hx hb dJ6_bitCount_0f7a4_46 ?_
  refine lv_topi (fun a5 ea5 => ?_)
  refine lv_istore_n (lv' := [(0, .int a5)]) hx hb dJ6_bitCount_0f7a4_47 rfl hl (by decide) rfl (fun ls hl => ?_)
  refine lv_iload_n hx hb dJ6_bitCount_0f7a4_48 rfl (lv_at hl 0 rfl) ?_
  refine lv_bipush (v := (nI 63)) hx hb dJ6_bitCount_0f7a4_49 (by decide) ?_
  refine lv_iand hx hb dJ6_bitCount_0f7a4_51 ?_
  exact kMi_ret hx hb hr hlocks hP hK hD hS dJ6_bitCount_0f7a4_52 (by subst ea5; subst ea4; subst ea3; subst ea2; subst ea1; rfl) rfl
set_option maxHeartbeats 4000000 in
set_option maxRecDepth 100000 in
theorem c_J7_fill_53178 (l : Launch) (dC : Nat → ClassId) (dI : Nat → Nat → Nat) (cA : ClassId) (a N : Nat) (f : Nat → Int32) (v : Int32) (hN : N < 1000) : kMv l yJ7_fill_53178 wsJ7_fill_53178 ({ frames := 0, cells := 0, slots := 0, locals := 0 }) dC dI [(cA, .int)] [(a, .inl (cA, N, .inl (f)))] [.ref a, .int v] [(a, .inl (cA, N, .inl (kx_fill f v N)))] := by
  refine kMv_of (cc := cJ7_fill_53178) (maxL := 4) (ret := none) (by decide) rfl (Nat.le_of_ble_eq_true rfl) ?_
  intro p e s m below meth c A ls hx hb hml hr hts hown hlocks hA hP hK hD hS hl
  have hl : lv_has ls 4 [(0, .ref a), (1, .int v)] := hl
  refine lv_iconst (v := (nI 0)) hx hb dJ7_fill_53178_0 (by decide) ?_
  refine lv_istore_n (lv' := [(2, .int (nI 0)), (0, .ref a), (1, .int v)]) hx hb dJ7_fill_53178_1 rfl hl (by decide) rfl (fun ls hl => ?_)
  refine lv_aload_n hx hb dJ7_fill_53178_2 rfl (lv_at hl 1 rfl) ?_
  refine va_alen hx hb hK hP 0 0 rfl rfl (v := nI N) rfl dJ7_fill_53178_3 ?_
  refine lv_istore_n (lv' := [(3, .int (nI N)), (2, .int (nI 0)), (0, .ref a), (1, .int v)]) hx hb dJ7_fill_53178_4 rfl hl (by decide) rfl (fun ls hl => ?_)
  have lp : ∀ (k i : Nat), i + k = N → ∀ (H : Heap) (locs : List Loc) (ls : Array Slot), va_P (dC, dI) vwCl [(a, .inl (cA, N, .inl (kx_fill f v i)))] H → va_D A [(a, .inl (cA, N, .inl (kx_fill f v i)))] → va_S A s.heap H locs → lv_has ls 4 [(0, .ref a), (1, .int v), (2, .int (nI i)), (3, .int (nI N))] → W p l e (headSpec wsJ7_fill_53178 ({ frames := 0, cells := 0, slots := 0, locals := 0 })).room s m ([.ref a, .int v] : List Value).toArray below meth c H locs 0 0 (MQ below (va_Qv (fun (_ : Unit) => True) (kB dC dI [(cA, .int)] [(a, .inl (cA, N, .inl (kx_fill f v N)))] A) A) ([.ref a, .int v] : List Value).toArray s 0 0 A) (F0 m 5 ls []) := by
    intro k
    induction k with
    | zero =>
      intro i hi H locs ls hP hD hS hl
      refine lv_iload_n hx hb dJ7_fill_53178_5 rfl (lv_at hl 2 rfl) ?_
      refine lv_iload_n hx hb dJ7_fill_53178_6 rfl (lv_at hl 3 rfl) ?_
      refine kv_ge (tgt := 20) hx hb (by omega) (by omega) dJ7_fill_53178_7 (by decide) (fun h7_0 => ?_) (fun h7_0 => absurd h7_0 (by omega))
      exact kMv_ret hx hb hr hlocks hP hK hD hS dJ7_fill_53178_20 (by rw [show i = N by omega])
    | succ k ih =>
      intro i hi H locs ls hP hD hS hl
      refine lv_iload_n hx hb dJ7_fill_53178_5 rfl (lv_at hl 2 rfl) ?_
      refine lv_iload_n hx hb dJ7_fill_53178_6 rfl (lv_at hl 3 rfl) ?_
      refine kv_ge (tgt := 20) hx hb (by omega) (by omega) dJ7_fill_53178_7 (by decide) (fun h7_0 => absurd h7_0 (by omega)) (fun h7_0 => ?_)
      refine lv_aload_n hx hb dJ7_fill_53178_10 rfl (lv_at hl 0 rfl) ?_
      refine lv_iload_n hx hb dJ7_fill_53178_11 rfl (lv_at hl 2 rfl) ?_
      refine lv_iload_n hx hb dJ7_fill_53178_12 rfl (lv_at hl 1 rfl) ?_
      refine kv_iast hx hb hK hP hD hS 0 0 rfl rfl (by omega) (by omega) dJ7_fill_53178_13 (fun H locs hP hD hS => ?_)
      have hP : va_P (dC, dI) vwCl ([(a, .inl (cA, N, .inl (upd (kx_fill f v i) i v)))]) H := hP
      have hD : va_D A ([(a, .inl (cA, N, .inl (upd (kx_fill f v i) i v)))]) := hD
      refine lv_iinc (v := (nI (i + 1))) (lv' := [(2, .int (nI (i + 1))), (0, .ref a), (1, .int v), (3, .int (nI N))]) hx hb dJ7_fill_53178_14 hl (k := 2) rfl (kv_inc _ 1 (by decide)) (by decide) rfl (fun ls hl => ?_)
      refine lv_goto (tgt := 5) hx hb dJ7_fill_53178_17 (by decide) ?_
      have hP : va_P (dC, dI) vwCl [(a, .inl (cA, N, .inl (kx_fill f v (i + 1))))] H := by rw [← kx_fill_s]; exact hP
      have hD : va_D A [(a, .inl (cA, N, .inl (kx_fill f v (i + 1))))] := by rw [← kx_fill_s]; exact hD
      exact ih (i + 1) (by omega) _ _ _ hP hD hS (lv_sub hl [1, 2, 0, 3] rfl)
  exact lp N 0 (by omega) _ _ _ hP hD hS (lv_sub hl [2, 3, 1, 0] rfl)
set_option maxHeartbeats 4000000 in
set_option maxRecDepth 100000 in
/-- NestCells.needPower  -/
theorem c_X0_needPower (l : Launch) (dC : Nat → ClassId) (dI : Nat → Nat → Nat) (cA : ClassId) (h0 q0 q1 q2 q3 q4 q5 : Nat) (w ce nm tl tc tw : Nat → Int32) (T n z : Nat) (wtc wia off : Int32)  (ho : off = 0) : kMv l yX0_needPower wsX0_needPower ({ frames := 0, cells := 0, slots := 0, locals := 0 }) dC dI [(cA, .int)] (wX0 cA h0 q0 q1 q2 q3 q4 q5 w ce nm tl tc tw T n z wtc wia off) [.ref h0] (wX0 cA h0 q0 q1 q2 q3 q4 q5 w ce nm tl tc tw T n z wtc wia off) := by
  refine kMv_of (cc := cX0_needPower) (maxL := 1) (ret := none) (by decide) rfl (Nat.le_of_ble_eq_true rfl) ?_
  intro p e s m below meth c A ls hx hb hml hr hts hown hlocks hA hP hK hD hS hl
  have hin : ∀ w ∈ u_ws RX0 TX0 12, w ∈ wsX0_needPower := by decide +kernel
  have hl : lv_has ls 1 [(0, .ref h0)] := hl
  refine lv_aload_n hx hb dX0_needPower_0 rfl (lv_at hl 0 rfl) ?_
  refine va_get (D := (dC, dI)) (ci := 0) (v := .int off) (C := RX0) (T := TX0) (N := 12) hx hb hts hin hown hK hP 0 rfl rfl 11 (by decide) (hts (.fieldLink RX0 44 "NestCells" "off" "Z") (by decide +kernel)) (fun _ h9 => h9) rfl dX0_needPower_1 ?_
  refine lv_if_eq (tgt := 17) hx hb dX0_needPower_4 (by decide) (fun h4_0 => ?_) (fun h4_0 => absurd h4_0 (fun q => q ho))
  exact kMv_ret hx hb hr hlocks hP hK hD hS dX0_needPower_17 rfl
set_option maxHeartbeats 4000000 in
set_option maxRecDepth 100000 in
/-- NestCells.needTransaction  -/
theorem c_X0_needTransaction (l : Launch) (dC : Nat → ClassId) (dI : Nat → Nat → Nat) (cA : ClassId) (h0 q0 q1 q2 q3 q4 q5 : Nat) (w ce nm tl tc tw : Nat → Int32) (T n z : Nat) (wtc wia off : Int32)  (ho : off = 0) (hT : 0 < T) (hT2 : T ≤ 8) : kMv l yX0_needTransaction wsX0_needTransaction ({ frames := 1, cells := 0, slots := 0, locals := 20 }) dC dI [(cA, .int)] (wX0 cA h0 q0 q1 q2 q3 q4 q5 w ce nm tl tc tw T n z wtc wia off) [.ref h0] (wX0 cA h0 q0 q1 q2 q3 q4 q5 w ce nm tl tc tw T n z wtc wia off) := by
  refine kMv_of (cc := cX0_needTransaction) (maxL := 1) (ret := none) (by decide) rfl (Nat.le_of_ble_eq_true rfl) ?_
  intro p e s m below meth c A ls hx hb hml hr hts hown hlocks hA hP hK hD hS hl
  have hin : ∀ w ∈ u_ws RX0 TX0 12, w ∈ wsX0_needTransaction := by decide +kernel
  have hl : lv_has ls 1 [(0, .ref h0)] := hl
  refine lv_aload_n hx hb dX0_needTransaction_0 rfl (lv_at hl 0 rfl) ?_
  refine kv_Vv (Xr := []) (n := 0) (c_X0_needPower l dC dI cA h0 q0 q1 q2 q3 q4 q5 w ce nm tl tc tw T n z wtc wia off  ho) hx hb hml hown hts gX0_needTransaction_X0_needPower rfl ⟨rfl, rfl⟩ (by decide +kernel) rfl ⟨Nat.le_of_ble_eq_true rfl, Nat.le_of_ble_eq_true rfl⟩ hK hP hD hS hA [0] [0, 1, 2, 3, 4, 5, 6] [] rfl rfl rfl (by decide) (by decide) (q0 := 0) rfl rfl rfl (by decide) hl.1 rfl (Nat.le_of_ble_eq_true rfl) dX0_needTransaction_1 ⟨Nat.zero_le _, Nat.zero_le _⟩ (fun H locs hP hD hS => ?_)
  have hP : va_P (dC, dI) vwCl (wX0 cA h0 q0 q1 q2 q3 q4 q5 w ce nm tl tc tw T n z wtc wia off) H := hP
  have hD : va_D A (wX0 cA h0 q0 q1 q2 q3 q4 q5 w ce nm tl tc tw T n z wtc wia off) := hD
  refine lv_aload_n hx hb dX0_needTransaction_4 rfl (lv_at hl 0 rfl) ?_
  refine va_get (D := (dC, dI)) (ci := 0) (v := .int (nI T)) (C := RX0) (T := TX0) (N := 12) hx hb hts hin hown hK hP 0 rfl rfl 6 (by decide) (hts (.fieldLink RX0 51 "NestCells" "transactions" "I") (by decide +kernel)) (fun _ h9 => h9) rfl dX0_needTransaction_5 ?_
  refine kv_if_ne (tgt := 21) hx hb (by omega) dX0_needTransaction_8 (by decide) (fun h8_0 => ?_) (fun h8_0 => absurd h8_0 (by omega))
  exact kMv_ret hx hb hr hlocks hP hK hD hS dX0_needTransaction_21 rfl
set_option maxHeartbeats 4000000 in
set_option maxRecDepth 100000 in
/-- NestCells.needCell  -/
theorem c_X0_needCell (l : Launch) (dC : Nat → ClassId) (dI : Nat → Nat → Nat) (cA : ClassId) (h0 q0 q1 q2 q3 q4 q5 : Nat) (w ce nm tl tc tw : Nat → Int32) (T n z : Nat) (wtc wia off : Int32) (cell : Nat) (hc : cell < 32) : kMv l yX0_needCell wsX0_needCell ({ frames := 1, cells := 0, slots := 0, locals := 20 }) dC dI [(cA, .int)] (wX0 cA h0 q0 q1 q2 q3 q4 q5 w ce nm tl tc tw T n z wtc wia off) [.ref h0, .int (nI cell)] (wX0 cA h0 q0 q1 q2 q3 q4 q5 w ce nm tl tc tw T n z wtc wia off) := by
  refine kMv_of (cc := cX0_needCell) (maxL := 2) (ret := none) (by decide) rfl (Nat.le_of_ble_eq_true rfl) ?_
  intro p e s m below meth c A ls hx hb hml hr hts hown hlocks hA hP hK hD hS hl
  have hl : lv_has ls 2 [(0, .ref h0), (1, .int (nI cell))] := hl
  refine lv_iload_n hx hb dX0_needCell_0 rfl (lv_at hl 1 rfl) ?_
  refine kv_Si (Xr := wX0 cA h0 q0 q1 q2 q3 q4 q5 w ce nm tl tc tw T n z wtc wia off) (n := 1) (c_X0_isCell l dC dI   (nI cell) ) hx hb hml hown hts gX0_needCell_X0_isCell rfl ⟨rfl, rfl⟩ (by decide +kernel) rfl ⟨Nat.le_of_ble_eq_true rfl, Nat.le_of_ble_eq_true rfl⟩ hK hP hD hS hA [] [] [0, 1, 2, 3, 4, 5, 6] rfl rfl rfl (by decide) (by decide) rfl (by decide) hl.1 rfl (Nat.le_of_ble_eq_true rfl) dX0_needCell_1 ⟨Nat.zero_le _, Nat.zero_le _⟩ (fun H locs hP hD hS => ?_)
  have hP : va_P (dC, dI) vwCl (wX0 cA h0 q0 q1 q2 q3 q4 q5 w ce nm tl tc tw T n z wtc wia off) H := hP
  have hD : va_D A (wX0 cA h0 q0 q1 q2 q3 q4 q5 w ce nm tl tc tw T n z wtc wia off) := hD
  refine lv_if_ne (tgt := 17) hx hb dX0_needCell_4 (by decide) (fun h4_0 => ?_) (fun h4_0 => absurd h4_0 (by rw [kx_isCell_n hc]; exact kv_n10))
  exact kMv_ret hx hb hr hlocks hP hK hD hS dX0_needCell_17 rfl
set_option maxHeartbeats 4000000 in
set_option maxRecDepth 100000 in
/-- NestCells.needWord  -/
theorem c_X0_needWord (l : Launch) (dC : Nat → ClassId) (dI : Nat → Nat → Nat) (cA : ClassId) (h0 q0 q1 q2 q3 q4 q5 : Nat) (w ce nm tl tc tw : Nat → Int32) (T n z : Nat) (wtc wia off : Int32) (i : Nat) (hi : i < 98) : kMv l yX0_needWord wsX0_needWord ({ frames := 0, cells := 0, slots := 0, locals := 0 }) dC dI [(cA, .int)] (wX0 cA h0 q0 q1 q2 q3 q4 q5 w ce nm tl tc tw T n z wtc wia off) [.ref h0, .int (nI i)] (wX0 cA h0 q0 q1 q2 q3 q4 q5 w ce nm tl tc tw T n z wtc wia off) := by
  refine kMv_of (cc := cX0_needWord) (maxL := 2) (ret := none) (by decide) rfl (Nat.le_of_ble_eq_true rfl) ?_
  intro p e s m below meth c A ls hx hb hml hr hts hown hlocks hA hP hK hD hS hl
  have hl : lv_has ls 2 [(0, .ref h0), (1, .int (nI i))] := hl
  refine lv_iload_n hx hb dX0_needWord_0 rfl (lv_at hl 1 rfl) ?_
  refine kv_if_lt (tgt := 10) hx hb (by omega) dX0_needWord_1 (by decide) ?_
  refine lv_iload_n hx hb dX0_needWord_4 rfl (lv_at hl 1 rfl) ?_
  refine lv_bipush (v := (nI 98)) hx hb dX0_needWord_5 (by decide) ?_
  refine kv_lt (tgt := 20) hx hb (by omega) (by omega) dX0_needWord_7 (by decide) (fun h7_0 => ?_) (fun h7_0 => absurd h7_0 (by omega))
  exact kMv_ret hx hb hr hlocks hP hK hD hS dX0_needWord_20 rfl
set_option maxHeartbeats 4000000 in
set_option maxRecDepth 100000 in
/-- NestCells.needName  -/
theorem c_X0_needName (l : Launch) (dC : Nat → ClassId) (dI : Nat → Nat → Nat) (cA : ClassId) (h0 q0 q1 q2 q3 q4 q5 : Nat) (w ce nm tl tc tw : Nat → Int32) (T n z : Nat) (wtc wia off : Int32) (name : Nat) (hn : name < 10) : kMv l yX0_needName wsX0_needName ({ frames := 0, cells := 0, slots := 0, locals := 0 }) dC dI [(cA, .int)] (wX0 cA h0 q0 q1 q2 q3 q4 q5 w ce nm tl tc tw T n z wtc wia off) [.ref h0, .int (nI name)] (wX0 cA h0 q0 q1 q2 q3 q4 q5 w ce nm tl tc tw T n z wtc wia off) := by
  refine kMv_of (cc := cX0_needName) (maxL := 2) (ret := none) (by decide) rfl (Nat.le_of_ble_eq_true rfl) ?_
  intro p e s m below meth c A ls hx hb hml hr hts hown hlocks hA hP hK hD hS hl
  have hl : lv_has ls 2 [(0, .ref h0), (1, .int (nI name))] := hl
  refine lv_iload_n hx hb dX0_needName_0 rfl (lv_at hl 1 rfl) ?_
  refine kv_if_lt (tgt := 10) hx hb (by omega) dX0_needName_1 (by decide) ?_
  refine lv_iload_n hx hb dX0_needName_4 rfl (lv_at hl 1 rfl) ?_
  refine lv_bipush (v := (nI 10)) hx hb dX0_needName_5 (by decide) ?_
  refine kv_lt (tgt := 20) hx hb (by omega) (by omega) dX0_needName_7 (by decide) (fun h7_0 => ?_) (fun h7_0 => absurd h7_0 (by omega))
  exact kMv_ret hx hb hr hlocks hP hK hD hS dX0_needName_20 rfl
set_option maxHeartbeats 4000000 in
set_option maxRecDepth 100000 in
/-- NestCells.needPoint  -/
theorem c_X0_needPoint (l : Launch) (dC : Nat → ClassId) (dI : Nat → Nat → Nat) (cA : ClassId) (h0 q0 q1 q2 q3 q4 q5 : Nat) (w ce nm tl tc tw : Nat → Int32) (T n z : Nat) (wtc wia off : Int32) (name : Nat) (hn : n ≤ 88) (hp : 1 ≤ kx_pl nm (nI name) (kx_inn nm n) n) : kMi l yX0_needPoint wsX0_needPoint ({ frames := 2, cells := 0, slots := 0, locals := 44 }) dC dI [(cA, .int)] (wX0 cA h0 q0 q1 q2 q3 q4 q5 w ce nm tl tc tw T n z wtc wia off) [.ref h0, .int (nI name)] (nI (kx_pl nm (nI name) (kx_inn nm n) n - 1)) (wX0 cA h0 q0 q1 q2 q3 q4 q5 w ce nm tl tc tw T n z wtc wia off) := by
  refine kMi_of (cc := cX0_needPoint) (maxL := 3) (ret := (some .int)) (by decide) rfl (Nat.le_of_ble_eq_true rfl) ?_
  intro p e s m below meth c A ls hx hb hml hr hts hown hlocks hA hP hK hD hS hl
  have hl : lv_has ls 3 [(0, .ref h0), (1, .int (nI name))] := hl
  refine lv_aload_n hx hb dX0_needPoint_0 rfl (lv_at hl 0 rfl) ?_
  refine lv_iload_n hx hb dX0_needPoint_1 rfl (lv_at hl 1 rfl) ?_
  refine kv_Vi (Xr := []) (n := 1) (c_X0_pointLevel l dC dI cA h0 q0 q1 q2 q3 q4 q5 w ce nm tl tc tw T n z wtc wia off (nI name) (by omega)) hx hb hml hown hts gX0_needPoint_X0_pointLevel rfl ⟨rfl, rfl⟩ (by decide +kernel) rfl ⟨Nat.le_of_ble_eq_true rfl, Nat.le_of_ble_eq_true rfl⟩ hK hP hD hS hA [0] [0, 1, 2, 3, 4, 5, 6] [] rfl rfl rfl (by decide) (by decide) (q0 := 0) rfl rfl rfl (by decide) hl.1 rfl (Nat.le_of_ble_eq_true rfl) dX0_needPoint_2 ⟨Nat.zero_le _, Nat.zero_le _⟩ (fun H locs hP hD hS => ?_)
  have hP : va_P (dC, dI) vwCl (wX0 cA h0 q0 q1 q2 q3 q4 q5 w ce nm tl tc tw T n z wtc wia off) H := hP
  have hD : va_D A (wX0 cA h0 q0 q1 q2 q3 q4 q5 w ce nm tl tc tw T n z wtc wia off) := hD
  have hple := kx_pl_le nm (nI name) (kx_inn nm n) n
  refine kv_top (w := .int (nI (kx_pl nm (nI name) (kx_inn nm n) n - 1))) (by rw [← pk_sub hp]) ?_
  refine lv_istore_n (lv' := [(2, .int (nI (kx_pl nm (nI name) (kx_inn nm n) n - 1))), (0, .ref h0), (1, .int (nI name))]) hx hb dX0_needPoint_5 rfl hl (by decide) rfl (fun ls hl => ?_)
  refine lv_iload_n hx hb dX0_needPoint_6 rfl (lv_at hl 0 rfl) ?_
  refine lv_iconst (v := (-1)) hx hb dX0_needPoint_7 (by decide) ?_
  refine lv_icmp_ne (tgt := 21) hx hb dX0_needPoint_8 (by decide) (fun h8_0 => ?_) (fun h8_0 => absurd h8_0 (kv_nm1 (by omega)))
  refine lv_iload_n hx hb dX0_needPoint_21 rfl (lv_at hl 0 rfl) ?_
  exact kMi_ret hx hb hr hlocks hP hK hD hS dX0_needPoint_22 rfl rfl
set_option maxHeartbeats 4000000 in
set_option maxRecDepth 100000 in
/-- NestCells.goBack  -/
theorem c_X0_goBack (l : Launch) (dC : Nat → ClassId) (dI : Nat → Nat → Nat) (cA : ClassId) (h0 q0 q1 q2 q3 q4 q5 : Nat) (w ce nm tl tc tw : Nat → Int32) (T n z : Nat) (wtc wia off : Int32) (lev : Nat) (hz : z ≤ 60) (htc : ∀ t, t < z → ∃ i : Nat, i < 32 ∧ tc t = nI i) : kMi l yX0_goBack wsX0_goBack ({ frames := 0, cells := 0, slots := 0, locals := 0 }) dC dI [(cA, .int)] (wX0 cA h0 q0 q1 q2 q3 q4 q5 w ce nm tl tc tw T n z wtc wia off) [.ref h0, .int (nI lev)] (nI ((kx_gb tl tc tw (nI lev) z ce 0).2.2)) (wX0 cA h0 q0 q1 q2 q3 q4 q5 w ((kx_gb tl tc tw (nI lev) z ce 0).2.1) nm tl tc tw T lev ((kx_gb tl tc tw (nI lev) z ce 0).1) wtc wia off) := by
  refine kMi_of (cc := cX0_goBack) (maxL := 3) (ret := (some .int)) (by decide) rfl (Nat.le_of_ble_eq_true rfl) ?_
  intro p e s m below meth c A ls hx hb hml hr hts hown hlocks hA hP hK hD hS hl
  have hin : ∀ w ∈ u_ws RX0 TX0 12, w ∈ wsX0_goBack := by decide +kernel
  have hl : lv_has ls 3 [(0, .ref h0), (1, .int (nI lev))] := hl
  refine lv_iconst (v := (nI 0)) hx hb dX0_goBack_0 (by decide) ?_
  refine lv_istore_n (lv' := [(2, .int (nI 0)), (0, .ref h0), (1, .int (nI lev))]) hx hb dX0_goBack_1 rfl hl (by decide) rfl (fun ls hl => ?_)
  have lp : ∀ (k : Nat) (c' : Nat → Int32) (g : Nat), ∀ (_ : g + k ≤ z), ∀ (_ : kx_gb tl tc tw (nI lev) k c' g = kx_gb tl tc tw (nI lev) z ce 0), ∀ (H : Heap) (locs : List Loc) (ls : Array Slot), va_P (dC, dI) vwCl (wX0 cA h0 q0 q1 q2 q3 q4 q5 w c' nm tl tc tw T n k wtc wia off) H → va_D A (wX0 cA h0 q0 q1 q2 q3 q4 q5 w c' nm tl tc tw T n k wtc wia off) → va_S A s.heap H locs → lv_has ls 3 [(0, .ref h0), (1, .int (nI lev)), (2, .int (nI g))] → W p l e (headSpec wsX0_goBack ({ frames := 0, cells := 0, slots := 0, locals := 0 })).room s m ([.ref h0, .int (nI lev)] : List Value).toArray below meth c H locs 0 0 (MQ below (va_Qi (fun (r' : Int32) (_ : Unit) => r' = (nI ((kx_gb tl tc tw (nI lev) z ce 0).2.2))) (kB dC dI [(cA, .int)] (wX0 cA h0 q0 q1 q2 q3 q4 q5 w ((kx_gb tl tc tw (nI lev) z ce 0).2.1) nm tl tc tw T lev ((kx_gb tl tc tw (nI lev) z ce 0).1) wtc wia off) A) A) ([.ref h0, .int (nI lev)] : List Value).toArray s 0 0 A) (F0 m 2 ls []) := by
    intro k
    induction k with
    | zero =>
      intro c' g hk he H locs ls hP hD hS hl
      refine lv_aload_n hx hb dX0_goBack_2 rfl (lv_at hl 0 rfl) ?_
      refine va_get (D := (dC, dI)) (ci := 0) (v := .int (nI 0)) (C := RX0) (T := TX0) (N := 12) hx hb hts hin hown hK hP 0 rfl rfl 8 (by decide) (hts (.fieldLink RX0 82 "NestCells" "traces" "I") (by decide +kernel)) (fun _ h9 => h9) rfl dX0_goBack_3 ?_
      refine kv_if_le (tgt := 63) hx hb (by omega) dX0_goBack_6 (by decide) (fun _ => ?_) (fun h9 => absurd h9 (by omega))
      refine lv_aload_n hx hb dX0_goBack_63 rfl (lv_at hl 0 rfl) ?_
      refine lv_iload_n hx hb dX0_goBack_64 rfl (lv_at hl 1 rfl) ?_
      refine va_put (D := (dC, dI)) (ci := 0) (v := .int (nI lev)) (ty := .int) (C := RX0) (T := TX0) (N := 12) hx hb hts hin tyX0 tyX0_ok nmX0 hown hK hP hD hS 0 rfl rfl 7 (by decide) (hts (.fieldLink RX0 71 "NestCells" "levels" "I") (by decide +kernel)) (fun _ h9 => h9) rfl (by decide +kernel) rfl rfl (Nat.le_of_ble_eq_true rfl) dX0_goBack_65 (fun H locs hP hD hS => ?_)
      have hP : va_P (dC, dI) vwCl (wX0 cA h0 q0 q1 q2 q3 q4 q5 w c' nm tl tc tw T lev 0 wtc wia off) H := hP
      have hD : va_D A (wX0 cA h0 q0 q1 q2 q3 q4 q5 w c' nm tl tc tw T lev 0 wtc wia off) := hD
      refine lv_iload_n hx hb dX0_goBack_68 rfl (lv_at hl 2 rfl) ?_
      exact kMi_ret hx hb hr hlocks hP hK hD hS dX0_goBack_69 (by rw [← he]; rfl) (by rw [← he]; rfl)
    | succ k ih =>
      intro c' g hk he H locs ls hP hD hS hl
      refine lv_aload_n hx hb dX0_goBack_2 rfl (lv_at hl 0 rfl) ?_
      refine va_get (D := (dC, dI)) (ci := 0) (v := .int (nI (k + 1))) (C := RX0) (T := TX0) (N := 12) hx hb hts hin hown hK hP 0 rfl rfl 8 (by decide) (hts (.fieldLink RX0 82 "NestCells" "traces" "I") (by decide +kernel)) (fun _ h9 => h9) rfl dX0_goBack_3 ?_
      refine kv_if_le (tgt := 63) hx hb (by omega) dX0_goBack_6 (by decide) (fun h6_0 => absurd h6_0 (by omega)) (fun h6_0 => ?_)
      refine lv_aload_n hx hb dX0_goBack_9 rfl (lv_at hl 0 rfl) ?_
      refine va_get (D := (dC, dI)) (ci := 0) (v := .ref q3) (C := RX0) (T := TX0) (N := 12) hx hb hts hin hown hK hP 0 rfl rfl 3 (by decide) (hts (.fieldLink RX0 19 "NestCells" "traceLevel" "[I") (by decide +kernel)) (fun _ h9 => h9) rfl dX0_goBack_10 ?_
      refine lv_aload_n hx hb dX0_goBack_13 rfl (lv_at hl 0 rfl) ?_
      refine va_get (D := (dC, dI)) (ci := 0) (v := .int (nI (k + 1))) (C := RX0) (T := TX0) (N := 12) hx hb hts hin hown hK hP 0 rfl rfl 8 (by decide) (hts (.fieldLink RX0 82 "NestCells" "traces" "I") (by decide +kernel)) (fun _ h9 => h9) rfl dX0_goBack_14 ?_
      refine lv_iconst (v := (nI 1)) hx hb dX0_goBack_17 (by decide) ?_
      refine kv_subE (d := k) hx hb (by omega) dX0_goBack_18 ?_
      refine kv_iald hx hb hK hP 4 0 rfl rfl (by omega) (by omega) dX0_goBack_19 ?_
      refine lv_iload_n hx hb dX0_goBack_20 rfl (lv_at hl 1 rfl) ?_
      refine lv_icmp_lt (tgt := 63) hx hb dX0_goBack_21 (by decide) (fun h21_0 => ?_) (fun h21_0 => ?_)
      · skip
        refine lv_aload_n hx hb dX0_goBack_63 rfl (lv_at hl 0 rfl) ?_
        refine lv_iload_n hx hb dX0_goBack_64 rfl (lv_at hl 1 rfl) ?_
        refine va_put (D := (dC, dI)) (ci := 0) (v := .int (nI lev)) (ty := .int) (C := RX0) (T := TX0) (N := 12) hx hb hts hin tyX0 tyX0_ok nmX0 hown hK hP hD hS 0 rfl rfl 7 (by decide) (hts (.fieldLink RX0 71 "NestCells" "levels" "I") (by decide +kernel)) (fun _ h9 => h9) rfl (by decide +kernel) rfl rfl (Nat.le_of_ble_eq_true rfl) dX0_goBack_65 (fun H locs hP hD hS => ?_)
        have hP : va_P (dC, dI) vwCl (wX0 cA h0 q0 q1 q2 q3 q4 q5 w c' nm tl tc tw T lev (k + 1) wtc wia off) H := hP
        have hD : va_D A (wX0 cA h0 q0 q1 q2 q3 q4 q5 w c' nm tl tc tw T lev (k + 1) wtc wia off) := hD
        refine lv_iload_n hx hb dX0_goBack_68 rfl (lv_at hl 2 rfl) ?_
        exact kMi_ret hx hb hr hlocks hP hK hD hS dX0_goBack_69 (by rw [← he, kx_gb, if_pos h21_0]) (by rw [← he, kx_gb, if_pos h21_0])
      · skip
        refine lv_aload_n hx hb dX0_goBack_24 rfl (lv_at hl 0 rfl) ?_
        refine lv_dup hx hb dX0_goBack_25 rfl ?_
        refine va_get (D := (dC, dI)) (ci := 0) (v := .int (nI (k + 1))) (C := RX0) (T := TX0) (N := 12) hx hb hts hin hown hK hP 0 rfl rfl 8 (by decide) (hts (.fieldLink RX0 82 "NestCells" "traces" "I") (by decide +kernel)) (fun _ h9 => h9) rfl dX0_goBack_26 ?_
        refine lv_iconst (v := (nI 1)) hx hb dX0_goBack_29 (by decide) ?_
        refine kv_subE (d := k) hx hb (by omega) dX0_goBack_30 ?_
        refine va_put (D := (dC, dI)) (ci := 0) (v := .int (nI k)) (ty := .int) (C := RX0) (T := TX0) (N := 12) hx hb hts hin tyX0 tyX0_ok nmX0 hown hK hP hD hS 0 rfl rfl 8 (by decide) (hts (.fieldLink RX0 82 "NestCells" "traces" "I") (by decide +kernel)) (fun _ h9 => h9) rfl (by decide +kernel) rfl rfl (Nat.le_of_ble_eq_true rfl) dX0_goBack_31 (fun H locs hP hD hS => ?_)
        have hP : va_P (dC, dI) vwCl (wX0 cA h0 q0 q1 q2 q3 q4 q5 w c' nm tl tc tw T n k wtc wia off) H := hP
        have hD : va_D A (wX0 cA h0 q0 q1 q2 q3 q4 q5 w c' nm tl tc tw T n k wtc wia off) := hD
        refine lv_aload_n hx hb dX0_goBack_34 rfl (lv_at hl 0 rfl) ?_
        refine va_get (D := (dC, dI)) (ci := 0) (v := .ref q1) (C := RX0) (T := TX0) (N := 12) hx hb hts hin hown hK hP 0 rfl rfl 1 (by decide) (hts (.fieldLink RX0 13 "NestCells" "cells" "[I") (by decide +kernel)) (fun _ h9 => h9) rfl dX0_goBack_35 ?_
        refine lv_aload_n hx hb dX0_goBack_38 rfl (lv_at hl 0 rfl) ?_
        refine va_get (D := (dC, dI)) (ci := 0) (v := .ref q4) (C := RX0) (T := TX0) (N := 12) hx hb hts hin hown hK hP 0 rfl rfl 4 (by decide) (hts (.fieldLink RX0 22 "NestCells" "traceCell" "[I") (by decide +kernel)) (fun _ h9 => h9) rfl dX0_goBack_39 ?_
        refine lv_aload_n hx hb dX0_goBack_42 rfl (lv_at hl 0 rfl) ?_
        refine va_get (D := (dC, dI)) (ci := 0) (v := .int (nI k)) (C := RX0) (T := TX0) (N := 12) hx hb hts hin hown hK hP 0 rfl rfl 8 (by decide) (hts (.fieldLink RX0 82 "NestCells" "traces" "I") (by decide +kernel)) (fun _ h9 => h9) rfl dX0_goBack_43 ?_
        refine kv_iald hx hb hK hP 5 0 rfl rfl (by omega) (by omega) dX0_goBack_46 ?_
        obtain ⟨ci, hci, eci⟩ := htc k (by omega)
        refine kv_top (w := .int (nI ci)) (by rw [eci]) ?_
        refine lv_aload_n hx hb dX0_goBack_47 rfl (lv_at hl 0 rfl) ?_
        refine va_get (D := (dC, dI)) (ci := 0) (v := .ref q5) (C := RX0) (T := TX0) (N := 12) hx hb hts hin hown hK hP 0 rfl rfl 5 (by decide) (hts (.fieldLink RX0 25 "NestCells" "traceWas" "[I") (by decide +kernel)) (fun _ h9 => h9) rfl dX0_goBack_48 ?_
        refine lv_aload_n hx hb dX0_goBack_51 rfl (lv_at hl 0 rfl) ?_
        refine va_get (D := (dC, dI)) (ci := 0) (v := .int (nI k)) (C := RX0) (T := TX0) (N := 12) hx hb hts hin hown hK hP 0 rfl rfl 8 (by decide) (hts (.fieldLink RX0 82 "NestCells" "traces" "I") (by decide +kernel)) (fun _ h9 => h9) rfl dX0_goBack_52 ?_
        refine kv_iald hx hb hK hP 6 0 rfl rfl (by omega) (by omega) dX0_goBack_55 ?_
        refine kv_iast hx hb hK hP hD hS 2 0 rfl rfl (by omega) (by omega) dX0_goBack_56 (fun H locs hP hD hS => ?_)
        have hP : va_P (dC, dI) vwCl (wX0 cA h0 q0 q1 q2 q3 q4 q5 w (upd c' ci (tw k)) nm tl tc tw T n k wtc wia off) H := hP
        have hD : va_D A (wX0 cA h0 q0 q1 q2 q3 q4 q5 w (upd c' ci (tw k)) nm tl tc tw T n k wtc wia off) := hD
        refine lv_iinc (v := (nI (g + 1))) (lv' := [(2, .int (nI (g + 1))), (0, .ref h0), (1, .int (nI lev))]) hx hb dX0_goBack_57 hl (k := 2) rfl (kv_inc _ 1 (by decide)) (by decide) rfl (fun ls hl => ?_)
        refine lv_goto (tgt := 2) hx hb dX0_goBack_60 (by decide) ?_
        exact ih _ (g + 1) (by omega) (by rw [← he, kx_gb, if_neg h21_0, eci, nI_clamp (by omega)]) _ _ _ hP hD hS (lv_sub hl [1, 2, 0] rfl)
  exact lp z ce 0 (by omega) rfl _ _ _ hP hD hS (lv_sub hl [1, 2, 0] rfl)
