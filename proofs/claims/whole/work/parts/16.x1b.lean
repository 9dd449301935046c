set_option maxHeartbeats 4000000 in
set_option maxRecDepth 100000 in
/-- NestCellsModel.melts  -/
theorem c_X1_melts (l : Launch) (dC : Nat → ClassId) (dI : Nat → Nat → Nat) (cA : ClassId) (g0 r1 r2 r3 r4 r5 : Nat) (ce w we wr nm : Nat → Int32) (n T : Nat) (cd off told wia : Int32) (lev : Nat) (hn : n ≤ 90) (hlev : 1 ≤ lev) (hlev2 : lev < n) : kMv l yX1_melts wsX1_melts ({ frames := 0, cells := 0, slots := 0, locals := 0 }) dC dI [(cA, .int)] (wX1 cA g0 r1 r2 r3 r4 r5 ce w we wr nm n T cd off told wia) [.ref g0, .int (nI lev)] (wX1 cA g0 r1 r2 r3 r4 r5 ce w (rx_sw we lev (32 * (n - 1))) (kx_sh (upd wr (lev - 1) (wr (lev - 1) ||| wr lev)) lev n) (kx_sh nm lev n) (n - 1) T cd off told wia) := by
  refine kMv_of (cc := cX1_melts) (maxL := 4) (ret := none) (by decide) rfl (Nat.le_of_ble_eq_true rfl) ?_
  intro p e s m below meth c A ls hx hb hml hr hts hown hlocks hA hP hK hD hS hl
  have hin : ∀ w ∈ u_ws RX1 TX1 11, w ∈ wsX1_melts := by decide +kernel
  have hl : lv_has ls 4 [(0, .ref g0), (1, .int (nI lev))] := hl
  refine lv_iload_n hx hb dX1_melts_0 rfl (lv_at hl 1 rfl) ?_
  refine kv_if_le (tgt := 21) hx hb (by omega) dX1_melts_1 (by decide) (fun h1_0 => absurd h1_0 (by omega)) (fun h1_0 => ?_)
  refine lv_aload_n hx hb dX1_melts_4 rfl (lv_at hl 0 rfl) ?_
  refine va_get (D := (dC, dI)) (ci := 1) (v := .ref r4) (C := RX1) (T := TX1) (N := 11) hx hb hts hin hown hK hP 0 rfl rfl 4 (by decide) (hts (.fieldLink RX1 19 "NestCellsModel" "written" "[I") (by decide +kernel)) (fun _ h9 => h9) rfl dX1_melts_5 ?_
  refine lv_iload_n hx hb dX1_melts_8 rfl (lv_at hl 1 rfl) ?_
  refine lv_iconst (v := (nI 1)) hx hb dX1_melts_9 (by decide) ?_
  refine kv_subE (d := lev - 1) hx hb (by omega) dX1_melts_10 ?_
  refine lv_dup2_11 hx hb dX1_melts_11 rfl rfl ?_
  refine kv_iald hx hb hK hP 4 0 rfl rfl (by omega) (by omega) dX1_melts_12 ?_
  refine lv_aload_n hx hb dX1_melts_13 rfl (lv_at hl 0 rfl) ?_
  refine va_get (D := (dC, dI)) (ci := 1) (v := .ref r4) (C := RX1) (T := TX1) (N := 11) hx hb hts hin hown hK hP 0 rfl rfl 4 (by decide) (hts (.fieldLink RX1 19 "NestCellsModel" "written" "[I") (by decide +kernel)) (fun _ h9 => h9) rfl dX1_melts_14 ?_
  refine lv_iload_n hx hb dX1_melts_17 rfl (lv_at hl 1 rfl) ?_
  refine kv_iald hx hb hK hP 4 0 rfl rfl (by omega) (by omega) dX1_melts_18 ?_
  refine lv_ior hx hb dX1_melts_19 ?_
  refine kv_iast hx hb hK hP hD hS 4 0 rfl rfl (by omega) (by omega) dX1_melts_20 (fun H locs hP hD hS => ?_)
  have hP : va_P (dC, dI) vwCl (wX1 cA g0 r1 r2 r3 r4 r5 ce w we (upd wr (lev - 1) ((wr (lev - 1)) ||| (wr lev))) nm n T cd off told wia) H := hP
  have hD : va_D A (wX1 cA g0 r1 r2 r3 r4 r5 ce w we (upd wr (lev - 1) ((wr (lev - 1)) ||| (wr lev))) nm n T cd off told wia) := hD
  refine lv_iload_n hx hb dX1_melts_21 rfl (lv_at hl 1 rfl) ?_
  refine lv_istore_n (lv' := [(2, .int (nI lev)), (0, .ref g0), (1, .int (nI lev))]) hx hb dX1_melts_22 rfl hl (by decide) rfl (fun ls hl => ?_)
  have hP : va_P (dC, dI) vwCl (wX1 cA g0 r1 r2 r3 r4 r5 ce w (rx_sw we lev (32 * lev)) (kx_sh (upd wr (lev - 1) (wr (lev - 1) ||| wr lev)) lev (lev + 1)) (kx_sh nm lev (lev + 1)) n T cd off told wia) H := by rw [kx_sh_0, kx_sh_0, rx_sw_0]; exact hP
  have hD : va_D A (wX1 cA g0 r1 r2 r3 r4 r5 ce w (rx_sw we lev (32 * lev)) (kx_sh (upd wr (lev - 1) (wr (lev - 1) ||| wr lev)) lev (lev + 1)) (kx_sh nm lev (lev + 1)) n T cd off told wia) := by rw [kx_sh_0, kx_sh_0, rx_sw_0]; exact hD
  have lp : ∀ (k : Nat) (i : Nat), ∀ (_ : i + k + 1 = n), ∀ (_ : lev ≤ i), ∀ (H : Heap) (locs : List Loc) (ls : Array Slot), va_P (dC, dI) vwCl (wX1 cA g0 r1 r2 r3 r4 r5 ce w (rx_sw we lev (32 * i)) (kx_sh (upd wr (lev - 1) (wr (lev - 1) ||| wr lev)) lev (i + 1)) (kx_sh nm lev (i + 1)) n T cd off told wia) H → va_D A (wX1 cA g0 r1 r2 r3 r4 r5 ce w (rx_sw we lev (32 * i)) (kx_sh (upd wr (lev - 1) (wr (lev - 1) ||| wr lev)) lev (i + 1)) (kx_sh nm lev (i + 1)) n T cd off told wia) → va_S A s.heap H locs → lv_has ls 4 [(0, .ref g0), (1, .int (nI lev)), (2, .int (nI i))] → W p l e (headSpec wsX1_melts ({ frames := 0, cells := 0, slots := 0, locals := 0 })).room s m ([.ref g0, .int (nI lev)] : List Value).toArray below meth c H locs 0 0 (MQ below (va_Qv (fun (_ : Unit) => True) (kB dC dI [(cA, .int)] (wX1 cA g0 r1 r2 r3 r4 r5 ce w (rx_sw we lev (32 * (n - 1))) (kx_sh (upd wr (lev - 1) (wr (lev - 1) ||| wr lev)) lev n) (kx_sh nm lev n) (n - 1) T cd off told wia) A) A) ([.ref g0, .int (nI lev)] : List Value).toArray s 0 0 A) (F0 m 23 ls []) := by
    intro k
    induction k with
    | zero =>
      intro i hi hil H locs ls hP hD hS hl
      refine lv_iload_n hx hb dX1_melts_23 rfl (lv_at hl 2 rfl) ?_
      refine lv_iconst (v := (nI 1)) hx hb dX1_melts_24 (by decide) ?_
      refine kv_addE (d := i + 1) hx hb (by omega) dX1_melts_25 ?_
      refine lv_aload_n hx hb dX1_melts_26 rfl (lv_at hl 0 rfl) ?_
      refine va_get (D := (dC, dI)) (ci := 1) (v := .int (nI n)) (C := RX1) (T := TX1) (N := 11) hx hb hts hin hown hK hP 0 rfl rfl 6 (by decide) (hts (.fieldLink RX1 29 "NestCellsModel" "levels" "I") (by decide +kernel)) (fun _ h9 => h9) rfl dX1_melts_27 ?_
      refine kv_ge (tgt := 105) hx hb (by omega) (by omega) dX1_melts_30 (by decide) (fun h30_0 => ?_) (fun h30_0 => absurd h30_0 (by omega))
      refine lv_aload_n hx hb dX1_melts_105 rfl (lv_at hl 0 rfl) ?_
      refine lv_dup hx hb dX1_melts_106 rfl ?_
      refine va_get (D := (dC, dI)) (ci := 1) (v := .int (nI n)) (C := RX1) (T := TX1) (N := 11) hx hb hts hin hown hK hP 0 rfl rfl 6 (by decide) (hts (.fieldLink RX1 29 "NestCellsModel" "levels" "I") (by decide +kernel)) (fun _ h9 => h9) rfl dX1_melts_107 ?_
      refine lv_iconst (v := (nI 1)) hx hb dX1_melts_110 (by decide) ?_
      refine kv_subE (d := n - 1) hx hb (by omega) dX1_melts_111 ?_
      refine va_put (D := (dC, dI)) (ci := 1) (v := .int (nI (n - 1))) (ty := .int) (C := RX1) (T := TX1) (N := 11) hx hb hts hin tyX1 tyX1_ok nmX1 hown hK hP hD hS 0 rfl rfl 6 (by decide) (hts (.fieldLink RX1 29 "NestCellsModel" "levels" "I") (by decide +kernel)) (fun _ h9 => h9) rfl (by decide +kernel) rfl rfl (Nat.le_of_ble_eq_true rfl) dX1_melts_112 (fun H locs hP hD hS => ?_)
      have hP : va_P (dC, dI) vwCl (wX1 cA g0 r1 r2 r3 r4 r5 ce w (rx_sw we lev (32 * i)) (kx_sh (upd wr (lev - 1) (wr (lev - 1) ||| wr lev)) lev (i + 1)) (kx_sh nm lev (i + 1)) (n - 1) T cd off told wia) H := hP
      have hD : va_D A (wX1 cA g0 r1 r2 r3 r4 r5 ce w (rx_sw we lev (32 * i)) (kx_sh (upd wr (lev - 1) (wr (lev - 1) ||| wr lev)) lev (i + 1)) (kx_sh nm lev (i + 1)) (n - 1) T cd off told wia) := hD
      exact kMv_ret hx hb hr hlocks hP hK hD hS dX1_melts_115 (by rw [show i + 1 = n by omega, show i = n - 1 by omega])
    | succ k ih =>
      intro i hi hil H locs ls hP hD hS hl
      refine lv_iload_n hx hb dX1_melts_23 rfl (lv_at hl 2 rfl) ?_
      refine lv_iconst (v := (nI 1)) hx hb dX1_melts_24 (by decide) ?_
      refine kv_addE (d := i + 1) hx hb (by omega) dX1_melts_25 ?_
      refine lv_aload_n hx hb dX1_melts_26 rfl (lv_at hl 0 rfl) ?_
      refine va_get (D := (dC, dI)) (ci := 1) (v := .int (nI n)) (C := RX1) (T := TX1) (N := 11) hx hb hts hin hown hK hP 0 rfl rfl 6 (by decide) (hts (.fieldLink RX1 29 "NestCellsModel" "levels" "I") (by decide +kernel)) (fun _ h9 => h9) rfl dX1_melts_27 ?_
      refine kv_ge (tgt := 105) hx hb (by omega) (by omega) dX1_melts_30 (by decide) (fun h30_0 => absurd h30_0 (by omega)) (fun h30_0 => ?_)
      refine lv_aload_n hx hb dX1_melts_33 rfl (lv_at hl 0 rfl) ?_
      refine va_get (D := (dC, dI)) (ci := 1) (v := .ref r4) (C := RX1) (T := TX1) (N := 11) hx hb hts hin hown hK hP 0 rfl rfl 4 (by decide) (hts (.fieldLink RX1 19 "NestCellsModel" "written" "[I") (by decide +kernel)) (fun _ h9 => h9) rfl dX1_melts_34 ?_
      refine lv_iload_n hx hb dX1_melts_37 rfl (lv_at hl 2 rfl) ?_
      refine lv_aload_n hx hb dX1_melts_38 rfl (lv_at hl 0 rfl) ?_
      refine va_get (D := (dC, dI)) (ci := 1) (v := .ref r4) (C := RX1) (T := TX1) (N := 11) hx hb hts hin hown hK hP 0 rfl rfl 4 (by decide) (hts (.fieldLink RX1 19 "NestCellsModel" "written" "[I") (by decide +kernel)) (fun _ h9 => h9) rfl dX1_melts_39 ?_
      refine lv_iload_n hx hb dX1_melts_42 rfl (lv_at hl 2 rfl) ?_
      refine lv_iconst (v := (nI 1)) hx hb dX1_melts_43 (by decide) ?_
      refine kv_addE (d := i + 1) hx hb (by omega) dX1_melts_44 ?_
      refine kv_iald hx hb hK hP 4 0 rfl rfl (by omega) (by omega) dX1_melts_45 ?_
      refine kv_iast hx hb hK hP hD hS 4 0 rfl rfl (by omega) (by omega) dX1_melts_46 (fun H locs hP hD hS => ?_)
      have hP : va_P (dC, dI) vwCl (wX1 cA g0 r1 r2 r3 r4 r5 ce w (rx_sw we lev (32 * i)) (upd (kx_sh (upd wr (lev - 1) (wr (lev - 1) ||| wr lev)) lev (i + 1)) i ((kx_sh (upd wr (lev - 1) (wr (lev - 1) ||| wr lev)) lev (i + 1)) (i + 1))) (kx_sh nm lev (i + 1)) n T cd off told wia) H := hP
      have hD : va_D A (wX1 cA g0 r1 r2 r3 r4 r5 ce w (rx_sw we lev (32 * i)) (upd (kx_sh (upd wr (lev - 1) (wr (lev - 1) ||| wr lev)) lev (i + 1)) i ((kx_sh (upd wr (lev - 1) (wr (lev - 1) ||| wr lev)) lev (i + 1)) (i + 1))) (kx_sh nm lev (i + 1)) n T cd off told wia) := hD
      refine lv_aload_n hx hb dX1_melts_47 rfl (lv_at hl 0 rfl) ?_
      refine va_get (D := (dC, dI)) (ci := 1) (v := .ref r5) (C := RX1) (T := TX1) (N := 11) hx hb hts hin hown hK hP 0 rfl rfl 5 (by decide) (hts (.fieldLink RX1 22 "NestCellsModel" "names" "[I") (by decide +kernel)) (fun _ h9 => h9) rfl dX1_melts_48 ?_
      refine lv_iload_n hx hb dX1_melts_51 rfl (lv_at hl 2 rfl) ?_
      refine lv_aload_n hx hb dX1_melts_52 rfl (lv_at hl 0 rfl) ?_
      refine va_get (D := (dC, dI)) (ci := 1) (v := .ref r5) (C := RX1) (T := TX1) (N := 11) hx hb hts hin hown hK hP 0 rfl rfl 5 (by decide) (hts (.fieldLink RX1 22 "NestCellsModel" "names" "[I") (by decide +kernel)) (fun _ h9 => h9) rfl dX1_melts_53 ?_
      refine lv_iload_n hx hb dX1_melts_56 rfl (lv_at hl 2 rfl) ?_
      refine lv_iconst (v := (nI 1)) hx hb dX1_melts_57 (by decide) ?_
      refine kv_addE (d := i + 1) hx hb (by omega) dX1_melts_58 ?_
      refine kv_iald hx hb hK hP 5 0 rfl rfl (by omega) (by omega) dX1_melts_59 ?_
      refine kv_iast hx hb hK hP hD hS 5 0 rfl rfl (by omega) (by omega) dX1_melts_60 (fun H locs hP hD hS => ?_)
      have hP : va_P (dC, dI) vwCl (wX1 cA g0 r1 r2 r3 r4 r5 ce w (rx_sw we lev (32 * i)) (upd (kx_sh (upd wr (lev - 1) (wr (lev - 1) ||| wr lev)) lev (i + 1)) i ((kx_sh (upd wr (lev - 1) (wr (lev - 1) ||| wr lev)) lev (i + 1)) (i + 1))) (upd (kx_sh nm lev (i + 1)) i ((kx_sh nm lev (i + 1)) (i + 1))) n T cd off told wia) H := hP
      have hD : va_D A (wX1 cA g0 r1 r2 r3 r4 r5 ce w (rx_sw we lev (32 * i)) (upd (kx_sh (upd wr (lev - 1) (wr (lev - 1) ||| wr lev)) lev (i + 1)) i ((kx_sh (upd wr (lev - 1) (wr (lev - 1) ||| wr lev)) lev (i + 1)) (i + 1))) (upd (kx_sh nm lev (i + 1)) i ((kx_sh nm lev (i + 1)) (i + 1))) n T cd off told wia) := hD
      refine lv_iconst (v := (nI 0)) hx hb dX1_melts_61 (by decide) ?_
      refine lv_istore_n (lv' := [(3, .int (nI 0)), (0, .ref g0), (1, .int (nI lev)), (2, .int (nI i))]) hx hb dX1_melts_62 rfl hl (by decide) rfl (fun ls hl => ?_)
      have hW9 := hil
      have hP : va_P (dC, dI) vwCl (wX1 cA g0 r1 r2 r3 r4 r5 ce w (rx_sw we lev (32 * i + 0)) (kx_sh (upd wr (lev - 1) (wr (lev - 1) ||| wr lev)) lev (i + 1 + 1)) (kx_sh nm lev (i + 1 + 1)) n T cd off told wia) H := by rw [← rx_sh_s _ lev i hil, ← rx_sh_s nm lev i hil]; exact hP
      have hD : va_D A (wX1 cA g0 r1 r2 r3 r4 r5 ce w (rx_sw we lev (32 * i + 0)) (kx_sh (upd wr (lev - 1) (wr (lev - 1) ||| wr lev)) lev (i + 1 + 1)) (kx_sh nm lev (i + 1 + 1)) n T cd off told wia) := by rw [← rx_sh_s _ lev i hil, ← rx_sh_s nm lev i hil]; exact hD
      have lp : ∀ (k : Nat) (cc9 : Nat), ∀ (_ : cc9 + k = 32), ∀ (H : Heap) (locs : List Loc) (ls : Array Slot), va_P (dC, dI) vwCl (wX1 cA g0 r1 r2 r3 r4 r5 ce w (rx_sw we lev (32 * i + cc9)) (kx_sh (upd wr (lev - 1) (wr (lev - 1) ||| wr lev)) lev (i + 1 + 1)) (kx_sh nm lev (i + 1 + 1)) n T cd off told wia) H → va_D A (wX1 cA g0 r1 r2 r3 r4 r5 ce w (rx_sw we lev (32 * i + cc9)) (kx_sh (upd wr (lev - 1) (wr (lev - 1) ||| wr lev)) lev (i + 1 + 1)) (kx_sh nm lev (i + 1 + 1)) n T cd off told wia) → va_S A s.heap H locs → lv_has ls 4 [(0, .ref g0), (1, .int (nI lev)), (2, .int (nI i)), (3, .int (nI cc9))] → W p l e (headSpec wsX1_melts ({ frames := 0, cells := 0, slots := 0, locals := 0 })).room s m ([.ref g0, .int (nI lev)] : List Value).toArray below meth c H locs 0 0 (MQ below (va_Qv (fun (_ : Unit) => True) (kB dC dI [(cA, .int)] (wX1 cA g0 r1 r2 r3 r4 r5 ce w (rx_sw we lev (32 * (n - 1))) (kx_sh (upd wr (lev - 1) (wr (lev - 1) ||| wr lev)) lev n) (kx_sh nm lev n) (n - 1) T cd off told wia) A) A) ([.ref g0, .int (nI lev)] : List Value).toArray s 0 0 A) (F0 m 63 ls []) := by
        intro k
        induction k with
        | zero =>
          intro cc9 hc9 H locs ls hP hD hS hl
          refine lv_iload_n hx hb dX1_melts_63 rfl (lv_at hl 3 rfl) ?_
          refine lv_bipush (v := (nI 32)) hx hb dX1_melts_64 (by decide) ?_
          refine kv_ge (tgt := 99) hx hb (by omega) (by omega) dX1_melts_66 (by decide) (fun h66_0 => ?_) (fun h66_0 => absurd h66_0 (by omega))
          refine lv_iinc (v := (nI (i + 1))) (lv' := [(2, .int (nI (i + 1))), (0, .ref g0), (1, .int (nI lev)), (3, .int (nI cc9))]) hx hb dX1_melts_99 hl (k := 2) rfl (kv_inc _ 1 (by decide)) (by decide) rfl (fun ls hl => ?_)
          refine lv_goto (tgt := 23) hx hb dX1_melts_102 (by decide) ?_
          have hcc : cc9 = 32 := by omega
          subst hcc
          have hP : va_P (dC, dI) vwCl (wX1 cA g0 r1 r2 r3 r4 r5 ce w (rx_sw we lev (32 * (i + 1))) (kx_sh (upd wr (lev - 1) (wr (lev - 1) ||| wr lev)) lev (i + 1 + 1)) (kx_sh nm lev (i + 1 + 1)) n T cd off told wia) H := by exact hP
          have hD : va_D A (wX1 cA g0 r1 r2 r3 r4 r5 ce w (rx_sw we lev (32 * (i + 1))) (kx_sh (upd wr (lev - 1) (wr (lev - 1) ||| wr lev)) lev (i + 1 + 1)) (kx_sh nm lev (i + 1 + 1)) n T cd off told wia) := by exact hD
          exact ih (i + 1) (by omega) (by omega) _ _ _ hP hD hS (lv_sub hl [1, 2, 0] rfl)
        | succ k ih =>
          intro cc9 hc9 H locs ls hP hD hS hl
          refine lv_iload_n hx hb dX1_melts_63 rfl (lv_at hl 3 rfl) ?_
          refine lv_bipush (v := (nI 32)) hx hb dX1_melts_64 (by decide) ?_
          refine kv_ge (tgt := 99) hx hb (by omega) (by omega) dX1_melts_66 (by decide) (fun h66_0 => absurd h66_0 (by omega)) (fun h66_0 => ?_)
          refine lv_aload_n hx hb dX1_melts_69 rfl (lv_at hl 0 rfl) ?_
          refine va_get (D := (dC, dI)) (ci := 1) (v := .ref r3) (C := RX1) (T := TX1) (N := 11) hx hb hts hin hown hK hP 0 rfl rfl 3 (by decide) (hts (.fieldLink RX1 16 "NestCellsModel" "were" "[I") (by decide +kernel)) (fun _ h9 => h9) rfl dX1_melts_70 ?_
          refine lv_bipush (v := (nI 32)) hx hb dX1_melts_73 (by decide) ?_
          refine lv_iload_n hx hb dX1_melts_75 rfl (lv_at hl 2 rfl) ?_
          refine kv_mul hx hb dX1_melts_76 ?_
          refine lv_iload_n hx hb dX1_melts_77 rfl (lv_at hl 3 rfl) ?_
          refine kv_addE (d := (32 * i) + cc9) hx hb (by omega) dX1_melts_78 ?_
          refine lv_aload_n hx hb dX1_melts_79 rfl (lv_at hl 0 rfl) ?_
          refine va_get (D := (dC, dI)) (ci := 1) (v := .ref r3) (C := RX1) (T := TX1) (N := 11) hx hb hts hin hown hK hP 0 rfl rfl 3 (by decide) (hts (.fieldLink RX1 16 "NestCellsModel" "were" "[I") (by decide +kernel)) (fun _ h9 => h9) rfl dX1_melts_80 ?_
          refine lv_bipush (v := (nI 32)) hx hb dX1_melts_83 (by decide) ?_
          refine lv_iload_n hx hb dX1_melts_85 rfl (lv_at hl 2 rfl) ?_
          refine lv_iconst (v := (nI 1)) hx hb dX1_melts_86 (by decide) ?_
          refine kv_addE (d := i + 1) hx hb (by omega) dX1_melts_87 ?_
          refine kv_mul hx hb dX1_melts_88 ?_
          refine lv_iload_n hx hb dX1_melts_89 rfl (lv_at hl 3 rfl) ?_
          refine kv_addE (d := (32 * (i + 1)) + cc9) hx hb (by omega) dX1_melts_90 ?_
          refine kv_iald hx hb hK hP 3 0 rfl rfl (by omega) (by omega) dX1_melts_91 ?_
          refine kv_iast hx hb hK hP hD hS 3 0 rfl rfl (by omega) (by omega) dX1_melts_92 (fun H locs hP hD hS => ?_)
          have hP : va_P (dC, dI) vwCl (wX1 cA g0 r1 r2 r3 r4 r5 ce w (upd (rx_sw we lev (32 * i + cc9)) ((32 * i) + cc9) ((rx_sw we lev (32 * i + cc9)) ((32 * (i + 1)) + cc9))) (kx_sh (upd wr (lev - 1) (wr (lev - 1) ||| wr lev)) lev (i + 1 + 1)) (kx_sh nm lev (i + 1 + 1)) n T cd off told wia) H := hP
          have hD : va_D A (wX1 cA g0 r1 r2 r3 r4 r5 ce w (upd (rx_sw we lev (32 * i + cc9)) ((32 * i) + cc9) ((rx_sw we lev (32 * i + cc9)) ((32 * (i + 1)) + cc9))) (kx_sh (upd wr (lev - 1) (wr (lev - 1) ||| wr lev)) lev (i + 1 + 1)) (kx_sh nm lev (i + 1 + 1)) n T cd off told wia) := hD
          refine lv_iinc (v := (nI (cc9 + 1))) (lv' := [(3, .int (nI (cc9 + 1))), (0, .ref g0), (1, .int (nI lev)), (2, .int (nI i))]) hx hb dX1_melts_93 hl (k := 3) rfl (kv_inc _ 1 (by decide)) (by decide) rfl (fun ls hl => ?_)
          refine lv_goto (tgt := 63) hx hb dX1_melts_96 (by decide) ?_
          have hP : va_P (dC, dI) vwCl (wX1 cA g0 r1 r2 r3 r4 r5 ce w (rx_sw we lev (32 * i + (cc9 + 1))) (kx_sh (upd wr (lev - 1) (wr (lev - 1) ||| wr lev)) lev (i + 1 + 1)) (kx_sh nm lev (i + 1 + 1)) n T cd off told wia) H := by rw [← rx_sw_s we lev i cc9 hil]; exact hP
          have hD : va_D A (wX1 cA g0 r1 r2 r3 r4 r5 ce w (rx_sw we lev (32 * i + (cc9 + 1))) (kx_sh (upd wr (lev - 1) (wr (lev - 1) ||| wr lev)) lev (i + 1 + 1)) (kx_sh nm lev (i + 1 + 1)) n T cd off told wia) := by rw [← rx_sw_s we lev i cc9 hil]; exact hD
          exact ih (cc9 + 1) (by omega) _ _ _ hP hD hS (lv_sub hl [1, 2, 3, 0] rfl)
      exact lp 32 0 (by omega) _ _ _ hP hD hS (lv_sub hl [1, 2, 3, 0] rfl)
  exact lp (n - 1 - lev) lev (by omega) (Nat.le_refl _) _ _ _ hP hD hS (lv_sub hl [1, 2, 0] rfl)
set_option maxHeartbeats 4000000 in
set_option maxRecDepth 100000 in
/-- NestCellsModel.returns  -/
theorem c_X1_returns (l : Launch) (dC : Nat → ClassId) (dI : Nat → Nat → Nat) (cA : ClassId) (g0 r1 r2 r3 r4 r5 : Nat) (ce w we wr nm : Nat → Int32) (n T : Nat) (cd off told wia : Int32) (lev : Nat) (hn : n ≤ 90) (hlev : lev < n) : kMi l yX1_returns wsX1_returns ({ frames := 1, cells := 0, slots := 0, locals := 22 }) dC dI [(cA, .int)] (wX1 cA g0 r1 r2 r3 r4 r5 ce w we wr nm n T cd off told wia) [.ref g0, .int (nI lev)] (nI (rx_sm wr lev (n - lev))) (wX1 cA g0 r1 r2 r3 r4 r5 (rx_ce ce we lev 32) w we wr nm n T cd off told wia) := by
  refine kMi_of (cc := cX1_returns) (maxL := 4) (ret := (some .int)) (by decide) rfl (Nat.le_of_ble_eq_true rfl) ?_
  intro p e s m below meth c A ls hx hb hml hr hts hown hlocks hA hP hK hD hS hl
  have hin : ∀ w ∈ u_ws RX1 TX1 11, w ∈ wsX1_returns := by decide +kernel
  have hl : lv_has ls 4 [(0, .ref g0), (1, .int (nI lev))] := hl
  refine lv_iconst (v := (nI 0)) hx hb dX1_returns_0 (by decide) ?_
  refine lv_istore_n (lv' := [(2, .int (nI 0)), (0, .ref g0), (1, .int (nI lev))]) hx hb dX1_returns_1 rfl hl (by decide) rfl (fun ls hl => ?_)
  refine lv_iload_n hx hb dX1_returns_2 rfl (lv_at hl 2 rfl) ?_
  refine lv_istore_n (lv' := [(3, .int (nI lev)), (2, .int (nI 0)), (0, .ref g0), (1, .int (nI lev))]) hx hb dX1_returns_3 rfl hl (by decide) rfl (fun ls hl => ?_)
  have hl : lv_has ls 4 [(3, .int (nI (lev + 0))), (2, .int (nI (rx_sm wr lev 0))), (0, .ref g0), (1, .int (nI lev))] := by exact hl
  have lp : ∀ (k : Nat) (d : Nat), ∀ (_ : lev + d + k = n), ∀ (H : Heap) (locs : List Loc) (ls : Array Slot), va_P (dC, dI) vwCl (wX1 cA g0 r1 r2 r3 r4 r5 ce w we wr nm n T cd off told wia) H → va_D A (wX1 cA g0 r1 r2 r3 r4 r5 ce w we wr nm n T cd off told wia) → va_S A s.heap H locs → lv_has ls 4 [(0, .ref g0), (1, .int (nI lev)), (2, .int (nI (rx_sm wr lev d))), (3, .int (nI (lev + d)))] → W p l e (headSpec wsX1_returns ({ frames := 1, cells := 0, slots := 0, locals := 22 })).room s m ([.ref g0, .int (nI lev)] : List Value).toArray below meth c H locs 0 0 (MQ below (va_Qi (fun (r' : Int32) (_ : Unit) => r' = (nI (rx_sm wr lev (n - lev)))) (kB dC dI [(cA, .int)] (wX1 cA g0 r1 r2 r3 r4 r5 (rx_ce ce we lev 32) w we wr nm n T cd off told wia) A) A) ([.ref g0, .int (nI lev)] : List Value).toArray s 0 0 A) (F0 m 4 ls []) := by
    intro k
    induction k with
    | zero =>
      intro d hd H locs ls hP hD hS hl
      refine lv_iload_n hx hb dX1_returns_4 rfl (lv_at hl 3 rfl) ?_
      refine lv_aload_n hx hb dX1_returns_5 rfl (lv_at hl 0 rfl) ?_
      refine va_get (D := (dC, dI)) (ci := 1) (v := .int (nI n)) (C := RX1) (T := TX1) (N := 11) hx hb hts hin hown hK hP 0 rfl rfl 6 (by decide) (hts (.fieldLink RX1 29 "NestCellsModel" "levels" "I") (by decide +kernel)) (fun _ h9 => h9) rfl dX1_returns_6 ?_
      refine kv_ge (tgt := 30) hx hb (by omega) (by omega) dX1_returns_9 (by decide) (fun h9_0 => ?_) (fun h9_0 => absurd h9_0 (by omega))
      refine lv_iconst (v := (nI 0)) hx hb dX1_returns_30 (by decide) ?_
      refine lv_istore_n (lv' := [(3, .int (nI 0)), (0, .ref g0), (1, .int (nI lev)), (2, .int (nI (rx_sm wr lev d)))]) hx hb dX1_returns_31 rfl hl (by decide) rfl (fun ls hl => ?_)
      have hdd : d = n - lev := by omega
      rw [hdd] at hl
      have hl : lv_has ls 4 [(3, .int (nI 0)), (0, .ref g0), (1, .int (nI lev)), (2, .int (nI (rx_sm wr lev (n - lev))))] := by exact hl
      have hP : va_P (dC, dI) vwCl (wX1 cA g0 r1 r2 r3 r4 r5 (rx_ce ce we lev 0) w we wr nm n T cd off told wia) H := by rw [rx_ce_0]; exact hP
      have hD : va_D A (wX1 cA g0 r1 r2 r3 r4 r5 (rx_ce ce we lev 0) w we wr nm n T cd off told wia) := by rw [rx_ce_0]; exact hD
      have lp : ∀ (k : Nat) (t : Nat), ∀ (_ : t + k = 32), ∀ (H : Heap) (locs : List Loc) (ls : Array Slot), va_P (dC, dI) vwCl (wX1 cA g0 r1 r2 r3 r4 r5 (rx_ce ce we lev t) w we wr nm n T cd off told wia) H → va_D A (wX1 cA g0 r1 r2 r3 r4 r5 (rx_ce ce we lev t) w we wr nm n T cd off told wia) → va_S A s.heap H locs → lv_has ls 4 [(0, .ref g0), (1, .int (nI lev)), (2, .int (nI (rx_sm wr lev (n - lev)))), (3, .int (nI t))] → W p l e (headSpec wsX1_returns ({ frames := 1, cells := 0, slots := 0, locals := 22 })).room s m ([.ref g0, .int (nI lev)] : List Value).toArray below meth c H locs 0 0 (MQ below (va_Qi (fun (r' : Int32) (_ : Unit) => r' = (nI (rx_sm wr lev (n - lev)))) (kB dC dI [(cA, .int)] (wX1 cA g0 r1 r2 r3 r4 r5 (rx_ce ce we lev 32) w we wr nm n T cd off told wia) A) A) ([.ref g0, .int (nI lev)] : List Value).toArray s 0 0 A) (F0 m 32 ls []) := by
        intro k
        induction k with
        | zero =>
          intro t ht H locs ls hP hD hS hl
          refine lv_iload_n hx hb dX1_returns_32 rfl (lv_at hl 3 rfl) ?_
          refine lv_bipush (v := (nI 32)) hx hb dX1_returns_33 (by decide) ?_
          refine kv_ge (tgt := 61) hx hb (by omega) (by omega) dX1_returns_35 (by decide) (fun h35_0 => ?_) (fun h35_0 => absurd h35_0 (by omega))
          refine lv_iload_n hx hb dX1_returns_61 rfl (lv_at hl 2 rfl) ?_
          exact kMi_ret hx hb hr hlocks hP hK hD hS dX1_returns_62 rfl (by rw [show t = 32 by omega])
        | succ k ih =>
          intro t ht H locs ls hP hD hS hl
          refine lv_iload_n hx hb dX1_returns_32 rfl (lv_at hl 3 rfl) ?_
          refine lv_bipush (v := (nI 32)) hx hb dX1_returns_33 (by decide) ?_
          refine kv_ge (tgt := 61) hx hb (by omega) (by omega) dX1_returns_35 (by decide) (fun h35_0 => absurd h35_0 (by omega)) (fun h35_0 => ?_)
          refine lv_aload_n hx hb dX1_returns_38 rfl (lv_at hl 0 rfl) ?_
          refine va_get (D := (dC, dI)) (ci := 1) (v := .ref r1) (C := RX1) (T := TX1) (N := 11) hx hb hts hin hown hK hP 0 rfl rfl 1 (by decide) (hts (.fieldLink RX1 7 "NestCellsModel" "cells" "[I") (by decide +kernel)) (fun _ h9 => h9) rfl dX1_returns_39 ?_
          refine lv_iload_n hx hb dX1_returns_42 rfl (lv_at hl 3 rfl) ?_
          refine lv_aload_n hx hb dX1_returns_43 rfl (lv_at hl 0 rfl) ?_
          refine va_get (D := (dC, dI)) (ci := 1) (v := .ref r3) (C := RX1) (T := TX1) (N := 11) hx hb hts hin hown hK hP 0 rfl rfl 3 (by decide) (hts (.fieldLink RX1 16 "NestCellsModel" "were" "[I") (by decide +kernel)) (fun _ h9 => h9) rfl dX1_returns_44 ?_
          refine lv_bipush (v := (nI 32)) hx hb dX1_returns_47 (by decide) ?_
          refine lv_iload_n hx hb dX1_returns_49 rfl (lv_at hl 1 rfl) ?_
          refine kv_mul hx hb dX1_returns_50 ?_
          refine lv_iload_n hx hb dX1_returns_51 rfl (lv_at hl 3 rfl) ?_
          refine kv_addE (d := (32 * lev) + t) hx hb (by omega) dX1_returns_52 ?_
          refine kv_iald hx hb hK hP 3 0 rfl rfl (by omega) (by omega) dX1_returns_53 ?_
          refine kv_iast hx hb hK hP hD hS 1 0 rfl rfl (by omega) (by omega) dX1_returns_54 (fun H locs hP hD hS => ?_)
          have hP : va_P (dC, dI) vwCl (wX1 cA g0 r1 r2 r3 r4 r5 (upd (rx_ce ce we lev t) t (we ((32 * lev) + t))) w we wr nm n T cd off told wia) H := hP
          have hD : va_D A (wX1 cA g0 r1 r2 r3 r4 r5 (upd (rx_ce ce we lev t) t (we ((32 * lev) + t))) w we wr nm n T cd off told wia) := hD
          refine lv_iinc (v := (nI (t + 1))) (lv' := [(3, .int (nI (t + 1))), (0, .ref g0), (1, .int (nI lev)), (2, .int (nI (rx_sm wr lev (n - lev))))]) hx hb dX1_returns_55 hl (k := 3) rfl (kv_inc _ 1 (by decide)) (by decide) rfl (fun ls hl => ?_)
          refine lv_goto (tgt := 32) hx hb dX1_returns_58 (by decide) ?_
          have hP : va_P (dC, dI) vwCl (wX1 cA g0 r1 r2 r3 r4 r5 (rx_ce ce we lev (t + 1)) w we wr nm n T cd off told wia) H := by rw [← rx_ce_s]; exact hP
          have hD : va_D A (wX1 cA g0 r1 r2 r3 r4 r5 (rx_ce ce we lev (t + 1)) w we wr nm n T cd off told wia) := by rw [← rx_ce_s]; exact hD
          exact ih (t + 1) (by omega) _ _ _ hP hD hS (lv_sub hl [1, 2, 3, 0] rfl)
      exact lp 32 0 (by omega) _ _ _ hP hD hS (lv_sub hl [1, 2, 3, 0] rfl)
    | succ k ih =>
      intro d hd H locs ls hP hD hS hl
      refine lv_iload_n hx hb dX1_returns_4 rfl (lv_at hl 3 rfl) ?_
      refine lv_aload_n hx hb dX1_returns_5 rfl (lv_at hl 0 rfl) ?_
      refine va_get (D := (dC, dI)) (ci := 1) (v := .int (nI n)) (C := RX1) (T := TX1) (N := 11) hx hb hts hin hown hK hP 0 rfl rfl 6 (by decide) (hts (.fieldLink RX1 29 "NestCellsModel" "levels" "I") (by decide +kernel)) (fun _ h9 => h9) rfl dX1_returns_6 ?_
      refine kv_ge (tgt := 30) hx hb (by omega) (by omega) dX1_returns_9 (by decide) (fun h9_0 => absurd h9_0 (by omega)) (fun h9_0 => ?_)
      refine lv_iload_n hx hb dX1_returns_12 rfl (lv_at hl 2 rfl) ?_
      refine lv_aload_n hx hb dX1_returns_13 rfl (lv_at hl 0 rfl) ?_
      refine va_get (D := (dC, dI)) (ci := 1) (v := .ref r4) (C := RX1) (T := TX1) (N := 11) hx hb hts hin hown hK hP 0 rfl rfl 4 (by decide) (hts (.fieldLink RX1 19 "NestCellsModel" "written" "[I") (by decide +kernel)) (fun _ h9 => h9) rfl dX1_returns_14 ?_
      refine lv_iload_n hx hb dX1_returns_17 rfl (lv_at hl 3 rfl) ?_
      refine kv_iald hx hb hK hP 4 0 rfl rfl (by omega) (by omega) dX1_returns_18 ?_
      refine kv_Si (Xr := wX1 cA g0 r1 r2 r3 r4 r5 ce w we wr nm n T cd off told wia) (n := 1) (c_X1_bits l dC dI   (wr (lev + d)) ) hx hb hml hown hts gX1_returns_X1_bits rfl ⟨rfl, rfl⟩ (by decide +kernel) rfl ⟨Nat.le_of_ble_eq_true rfl, Nat.le_of_ble_eq_true rfl⟩ hK hP hD hS hA [] [] [0, 1, 2, 3, 4, 5] rfl rfl rfl (by decide) (by decide) rfl (by decide) hl.1 rfl (Nat.le_of_ble_eq_true rfl) dX1_returns_19 ⟨Nat.zero_le _, Nat.zero_le _⟩ (fun H locs hP hD hS => ?_)
      have hP : va_P (dC, dI) vwCl (wX1 cA g0 r1 r2 r3 r4 r5 ce w we wr nm n T cd off told wia) H := hP
      have hD : va_D A (wX1 cA g0 r1 r2 r3 r4 r5 ce w we wr nm n T cd off told wia) := hD
      refine kv_addE (d := (rx_sm wr lev d) + (mo_bits (wr (lev + d)) 32)) hx hb (by omega) dX1_returns_22 ?_
      refine lv_istore_n (lv' := [(2, .int (nI ((rx_sm wr lev d) + (mo_bits (wr (lev + d)) 32)))), (0, .ref g0), (1, .int (nI lev)), (3, .int (nI (lev + d)))]) hx hb dX1_returns_23 rfl hl (by decide) rfl (fun ls hl => ?_)
      refine lv_iinc (v := (nI ((lev + d) + 1))) (lv' := [(3, .int (nI ((lev + d) + 1))), (2, .int (nI ((rx_sm wr lev d) + (mo_bits (wr (lev + d)) 32)))), (0, .ref g0), (1, .int (nI lev))]) hx hb dX1_returns_24 hl (k := 3) rfl (kv_inc _ 1 (by decide)) (by decide) rfl (fun ls hl => ?_)
      refine lv_goto (tgt := 4) hx hb dX1_returns_27 (by decide) ?_
      have hl : lv_has ls 4 [(3, .int (nI (lev + (d + 1)))), (2, .int (nI (rx_sm wr lev (d + 1)))), (0, .ref g0), (1, .int (nI lev))] := by exact hl
      exact ih (d + 1) (by omega) _ _ _ hP hD hS (lv_sub hl [2, 3, 1, 0] rfl)
  exact lp (n - lev) 0 (by omega) _ _ _ hP hD hS (lv_sub hl [2, 3, 1, 0] rfl)
set_option maxHeartbeats 4000000 in
set_option maxRecDepth 100000 in
/-- NestCellsModel.format  -/
theorem c_X1_format (l : Launch) (dC : Nat → ClassId) (dI : Nat → Nat → Nat) (cA : ClassId) (g0 r1 r2 r3 r4 r5 : Nat) (ce w we wr nm : Nat → Int32) (n T : Nat) (cd off told wia : Int32)   : kMv l yX1_format wsX1_format ({ frames := 0, cells := 0, slots := 0, locals := 0 }) dC dI [(cA, .int)] (wX1 cA g0 r1 r2 r3 r4 r5 ce w we wr nm n T cd off told wia) [.ref g0] (wX1 cA g0 r1 r2 r3 r4 r5 (kx_fill ce (nI 0) 32) (kx_fill w (nI 0) 98) we wr nm 0 0 (nI 0) (nI 0) (nI 0) (nI 0)) := by
  refine kMv_of (cc := cX1_format) (maxL := 2) (ret := none) (by decide) rfl (Nat.le_of_ble_eq_true rfl) ?_
  intro p e s m below meth c A ls hx hb hml hr hts hown hlocks hA hP hK hD hS hl
  have hin : ∀ w ∈ u_ws RX1 TX1 11, w ∈ wsX1_format := by decide +kernel
  have hl : lv_has ls 2 [(0, .ref g0)] := hl
  refine lv_aload_n hx hb dX1_format_0 rfl (lv_at hl 0 rfl) ?_
  refine lv_iconst (v := (nI 0)) hx hb dX1_format_1 (by decide) ?_
  refine va_put (D := (dC, dI)) (ci := 1) (v := .int (nI 0)) (ty := .int) (C := RX1) (T := TX1) (N := 11) hx hb hts hin tyX1 tyX1_ok nmX1 hown hK hP hD hS 0 rfl rfl 0 (by decide) (hts (.fieldLink RX1 25 "NestCellsModel" "code" "I") (by decide +kernel)) (fun _ h9 => h9) rfl (by decide +kernel) rfl rfl (Nat.le_of_ble_eq_true rfl) dX1_format_2 (fun H locs hP hD hS => ?_)
  have hP : va_P (dC, dI) vwCl (wX1 cA g0 r1 r2 r3 r4 r5 ce w we wr nm n T (nI 0) off told wia) H := hP
  have hD : va_D A (wX1 cA g0 r1 r2 r3 r4 r5 ce w we wr nm n T (nI 0) off told wia) := hD
  refine lv_iconst (v := (nI 0)) hx hb dX1_format_5 (by decide) ?_
  refine lv_istore_n (lv' := [(1, .int (nI 0)), (0, .ref g0)]) hx hb dX1_format_6 rfl hl (by decide) rfl (fun ls hl => ?_)
  have hP : va_P (dC, dI) vwCl (wX1 cA g0 r1 r2 r3 r4 r5 (kx_fill ce (nI 0) 0) (kx_fill w (nI 0) 0) we wr nm n T (nI 0) off told wia) H := by rw [rx_fill_0, rx_fill_0]; exact hP
  have hD : va_D A (wX1 cA g0 r1 r2 r3 r4 r5 (kx_fill ce (nI 0) 0) (kx_fill w (nI 0) 0) we wr nm n T (nI 0) off told wia) := by rw [rx_fill_0, rx_fill_0]; exact hD
  have lp : ∀ (k : Nat) (t : Nat), ∀ (_ : t + k = 32), ∀ (H : Heap) (locs : List Loc) (ls : Array Slot), va_P (dC, dI) vwCl (wX1 cA g0 r1 r2 r3 r4 r5 (kx_fill ce (nI 0) t) (kx_fill w (nI 0) 0) we wr nm n T (nI 0) off told wia) H → va_D A (wX1 cA g0 r1 r2 r3 r4 r5 (kx_fill ce (nI 0) t) (kx_fill w (nI 0) 0) we wr nm n T (nI 0) off told wia) → va_S A s.heap H locs → lv_has ls 2 [(0, .ref g0), (1, .int (nI t))] → W p l e (headSpec wsX1_format ({ frames := 0, cells := 0, slots := 0, locals := 0 })).room s m ([.ref g0] : List Value).toArray below meth c H locs 0 0 (MQ below (va_Qv (fun (_ : Unit) => True) (kB dC dI [(cA, .int)] (wX1 cA g0 r1 r2 r3 r4 r5 (kx_fill ce (nI 0) 32) (kx_fill w (nI 0) 98) we wr nm 0 0 (nI 0) (nI 0) (nI 0) (nI 0)) A) A) ([.ref g0] : List Value).toArray s 0 0 A) (F0 m 7 ls []) := by
    intro k
    induction k with
    | zero =>
      intro t ht H locs ls hP hD hS hl
      refine lv_iload_n hx hb dX1_format_7 rfl (lv_at hl 1 rfl) ?_
      refine lv_bipush (v := (nI 32)) hx hb dX1_format_8 (by decide) ?_
      refine kv_ge (tgt := 26) hx hb (by omega) (by omega) dX1_format_10 (by decide) (fun h10_0 => ?_) (fun h10_0 => absurd h10_0 (by omega))
      refine lv_iconst (v := (nI 0)) hx hb dX1_format_26 (by decide) ?_
      refine lv_istore_n (lv' := [(1, .int (nI 0)), (0, .ref g0)]) hx hb dX1_format_27 rfl hl (by decide) rfl (fun ls hl => ?_)
      have htt : t = 32 := by omega
      rw [htt] at hP hD
      have hP : va_P (dC, dI) vwCl (wX1 cA g0 r1 r2 r3 r4 r5 (kx_fill ce (nI 0) 32) (kx_fill w (nI 0) 0) we wr nm n T (nI 0) off told wia) H := by exact hP
      have hD : va_D A (wX1 cA g0 r1 r2 r3 r4 r5 (kx_fill ce (nI 0) 32) (kx_fill w (nI 0) 0) we wr nm n T (nI 0) off told wia) := by exact hD
      have lp : ∀ (k : Nat) (t : Nat), ∀ (_ : t + k = 98), ∀ (H : Heap) (locs : List Loc) (ls : Array Slot), va_P (dC, dI) vwCl (wX1 cA g0 r1 r2 r3 r4 r5 (kx_fill ce (nI 0) 32) (kx_fill w (nI 0) t) we wr nm n T (nI 0) off told wia) H → va_D A (wX1 cA g0 r1 r2 r3 r4 r5 (kx_fill ce (nI 0) 32) (kx_fill w (nI 0) t) we wr nm n T (nI 0) off told wia) → va_S A s.heap H locs → lv_has ls 2 [(0, .ref g0), (1, .int (nI t))] → W p l e (headSpec wsX1_format ({ frames := 0, cells := 0, slots := 0, locals := 0 })).room s m ([.ref g0] : List Value).toArray below meth c H locs 0 0 (MQ below (va_Qv (fun (_ : Unit) => True) (kB dC dI [(cA, .int)] (wX1 cA g0 r1 r2 r3 r4 r5 (kx_fill ce (nI 0) 32) (kx_fill w (nI 0) 98) we wr nm 0 0 (nI 0) (nI 0) (nI 0) (nI 0)) A) A) ([.ref g0] : List Value).toArray s 0 0 A) (F0 m 28 ls []) := by
        intro k
        induction k with
        | zero =>
          intro t ht H locs ls hP hD hS hl
          refine lv_iload_n hx hb dX1_format_28 rfl (lv_at hl 1 rfl) ?_
          refine lv_bipush (v := (nI 98)) hx hb dX1_format_29 (by decide) ?_
          refine kv_ge (tgt := 47) hx hb (by omega) (by omega) dX1_format_31 (by decide) (fun h31_0 => ?_) (fun h31_0 => absurd h31_0 (by omega))
          refine lv_aload_n hx hb dX1_format_47 rfl (lv_at hl 0 rfl) ?_
          refine lv_iconst (v := (nI 0)) hx hb dX1_format_48 (by decide) ?_
          refine va_put (D := (dC, dI)) (ci := 1) (v := .int (nI 0)) (ty := .int) (C := RX1) (T := TX1) (N := 11) hx hb hts hin tyX1 tyX1_ok nmX1 hown hK hP hD hS 0 rfl rfl 6 (by decide) (hts (.fieldLink RX1 29 "NestCellsModel" "levels" "I") (by decide +kernel)) (fun _ h9 => h9) rfl (by decide +kernel) rfl rfl (Nat.le_of_ble_eq_true rfl) dX1_format_49 (fun H locs hP hD hS => ?_)
          have hP : va_P (dC, dI) vwCl (wX1 cA g0 r1 r2 r3 r4 r5 (kx_fill ce (nI 0) 32) (kx_fill w (nI 0) t) we wr nm 0 T (nI 0) off told wia) H := hP
          have hD : va_D A (wX1 cA g0 r1 r2 r3 r4 r5 (kx_fill ce (nI 0) 32) (kx_fill w (nI 0) t) we wr nm 0 T (nI 0) off told wia) := hD
          refine lv_aload_n hx hb dX1_format_52 rfl (lv_at hl 0 rfl) ?_
          refine lv_iconst (v := (nI 0)) hx hb dX1_format_53 (by decide) ?_
          refine va_put (D := (dC, dI)) (ci := 1) (v := .int (nI 0)) (ty := .int) (C := RX1) (T := TX1) (N := 11) hx hb hts hin tyX1 tyX1_ok nmX1 hown hK hP hD hS 0 rfl rfl 7 (by decide) (hts (.fieldLink RX1 36 "NestCellsModel" "transactions" "I") (by decide +kernel)) (fun _ h9 => h9) rfl (by decide +kernel) rfl rfl (Nat.le_of_ble_eq_true rfl) dX1_format_54 (fun H locs hP hD hS => ?_)
          have hP : va_P (dC, dI) vwCl (wX1 cA g0 r1 r2 r3 r4 r5 (kx_fill ce (nI 0) 32) (kx_fill w (nI 0) t) we wr nm 0 0 (nI 0) off told wia) H := hP
          have hD : va_D A (wX1 cA g0 r1 r2 r3 r4 r5 (kx_fill ce (nI 0) 32) (kx_fill w (nI 0) t) we wr nm 0 0 (nI 0) off told wia) := hD
          refine lv_aload_n hx hb dX1_format_57 rfl (lv_at hl 0 rfl) ?_
          refine lv_iconst (v := (nI 0)) hx hb dX1_format_58 (by decide) ?_
          refine va_put (D := (dC, dI)) (ci := 1) (v := .int (nI 0)) (ty := .boolean) (C := RX1) (T := TX1) (N := 11) hx hb hts hin tyX1 tyX1_ok nmX1 hown hK hP hD hS 0 rfl rfl 8 (by decide) (hts (.fieldLink RX1 39 "NestCellsModel" "off" "Z") (by decide +kernel)) (fun _ h9 => h9) rfl (by decide +kernel) rfl rfl (Nat.le_of_ble_eq_true rfl) dX1_format_59 (fun H locs hP hD hS => ?_)
          have hP : va_P (dC, dI) vwCl (wX1 cA g0 r1 r2 r3 r4 r5 (kx_fill ce (nI 0) 32) (kx_fill w (nI 0) t) we wr nm 0 0 (nI 0) (nI 0) told wia) H := hP
          have hD : va_D A (wX1 cA g0 r1 r2 r3 r4 r5 (kx_fill ce (nI 0) 32) (kx_fill w (nI 0) t) we wr nm 0 0 (nI 0) (nI 0) told wia) := hD
          refine lv_aload_n hx hb dX1_format_62 rfl (lv_at hl 0 rfl) ?_
          refine lv_iconst (v := (nI 0)) hx hb dX1_format_63 (by decide) ?_
          refine va_put (D := (dC, dI)) (ci := 1) (v := .int (nI 0)) (ty := .int) (C := RX1) (T := TX1) (N := 11) hx hb hts hin tyX1 tyX1_ok nmX1 hown hK hP hD hS 0 rfl rfl 9 (by decide) (hts (.fieldLink RX1 43 "NestCellsModel" "told" "I") (by decide +kernel)) (fun _ h9 => h9) rfl (by decide +kernel) rfl rfl (Nat.le_of_ble_eq_true rfl) dX1_format_64 (fun H locs hP hD hS => ?_)
          have hP : va_P (dC, dI) vwCl (wX1 cA g0 r1 r2 r3 r4 r5 (kx_fill ce (nI 0) 32) (kx_fill w (nI 0) t) we wr nm 0 0 (nI 0) (nI 0) (nI 0) wia) H := hP
          have hD : va_D A (wX1 cA g0 r1 r2 r3 r4 r5 (kx_fill ce (nI 0) 32) (kx_fill w (nI 0) t) we wr nm 0 0 (nI 0) (nI 0) (nI 0) wia) := hD
          refine lv_aload_n hx hb dX1_format_67 rfl (lv_at hl 0 rfl) ?_
          refine lv_iconst (v := (nI 0)) hx hb dX1_format_68 (by decide) ?_
          refine va_put (D := (dC, dI)) (ci := 1) (v := .int (nI 0)) (ty := .int) (C := RX1) (T := TX1) (N := 11) hx hb hts hin tyX1 tyX1_ok nmX1 hown hK hP hD hS 0 rfl rfl 10 (by decide) (hts (.fieldLink RX1 46 "NestCellsModel" "writes" "I") (by decide +kernel)) (fun _ h9 => h9) rfl (by decide +kernel) rfl rfl (Nat.le_of_ble_eq_true rfl) dX1_format_69 (fun H locs hP hD hS => ?_)
          have hP : va_P (dC, dI) vwCl (wX1 cA g0 r1 r2 r3 r4 r5 (kx_fill ce (nI 0) 32) (kx_fill w (nI 0) t) we wr nm 0 0 (nI 0) (nI 0) (nI 0) (nI 0)) H := hP
          have hD : va_D A (wX1 cA g0 r1 r2 r3 r4 r5 (kx_fill ce (nI 0) 32) (kx_fill w (nI 0) t) we wr nm 0 0 (nI 0) (nI 0) (nI 0) (nI 0)) := hD
          exact kMv_ret hx hb hr hlocks hP hK hD hS dX1_format_72 (by rw [show t = 98 by omega])
        | succ k ih =>
          intro t ht H locs ls hP hD hS hl
          refine lv_iload_n hx hb dX1_format_28 rfl (lv_at hl 1 rfl) ?_
          refine lv_bipush (v := (nI 98)) hx hb dX1_format_29 (by decide) ?_
          refine kv_ge (tgt := 47) hx hb (by omega) (by omega) dX1_format_31 (by decide) (fun h31_0 => absurd h31_0 (by omega)) (fun h31_0 => ?_)
          refine lv_aload_n hx hb dX1_format_34 rfl (lv_at hl 0 rfl) ?_
          refine va_get (D := (dC, dI)) (ci := 1) (v := .ref r2) (C := RX1) (T := TX1) (N := 11) hx hb hts hin hown hK hP 0 rfl rfl 2 (by decide) (hts (.fieldLink RX1 13 "NestCellsModel" "disk" "[I") (by decide +kernel)) (fun _ h9 => h9) rfl dX1_format_35 ?_
          refine lv_iload_n hx hb dX1_format_38 rfl (lv_at hl 1 rfl) ?_
          refine lv_iconst (v := (nI 0)) hx hb dX1_format_39 (by decide) ?_
          refine kv_iast hx hb hK hP hD hS 2 0 rfl rfl (by omega) (by omega) dX1_format_40 (fun H locs hP hD hS => ?_)
          have hP : va_P (dC, dI) vwCl (wX1 cA g0 r1 r2 r3 r4 r5 (kx_fill ce (nI 0) 32) (upd (kx_fill w (nI 0) t) t (nI 0)) we wr nm n T (nI 0) off told wia) H := hP
          have hD : va_D A (wX1 cA g0 r1 r2 r3 r4 r5 (kx_fill ce (nI 0) 32) (upd (kx_fill w (nI 0) t) t (nI 0)) we wr nm n T (nI 0) off told wia) := hD
          refine lv_iinc (v := (nI (t + 1))) (lv' := [(1, .int (nI (t + 1))), (0, .ref g0)]) hx hb dX1_format_41 hl (k := 1) rfl (kv_inc _ 1 (by decide)) (by decide) rfl (fun ls hl => ?_)
          refine lv_goto (tgt := 28) hx hb dX1_format_44 (by decide) ?_
          have hP : va_P (dC, dI) vwCl (wX1 cA g0 r1 r2 r3 r4 r5 (kx_fill ce (nI 0) 32) (kx_fill w (nI 0) (t + 1)) we wr nm n T (nI 0) off told wia) H := by rw [← kx_fill_s w]; exact hP
          have hD : va_D A (wX1 cA g0 r1 r2 r3 r4 r5 (kx_fill ce (nI 0) 32) (kx_fill w (nI 0) (t + 1)) we wr nm n T (nI 0) off told wia) := by rw [← kx_fill_s w]; exact hD
          exact ih (t + 1) (by omega) _ _ _ hP hD hS (lv_sub hl [1, 0] rfl)
      exact lp 98 0 (by omega) _ _ _ hP hD hS (lv_sub hl [1, 0] rfl)
    | succ k ih =>
      intro t ht H locs ls hP hD hS hl
      refine lv_iload_n hx hb dX1_format_7 rfl (lv_at hl 1 rfl) ?_
      refine lv_bipush (v := (nI 32)) hx hb dX1_format_8 (by decide) ?_
      refine kv_ge (tgt := 26) hx hb (by omega) (by omega) dX1_format_10 (by decide) (fun h10_0 => absurd h10_0 (by omega)) (fun h10_0 => ?_)
      refine lv_aload_n hx hb dX1_format_13 rfl (lv_at hl 0 rfl) ?_
      refine va_get (D := (dC, dI)) (ci := 1) (v := .ref r1) (C := RX1) (T := TX1) (N := 11) hx hb hts hin hown hK hP 0 rfl rfl 1 (by decide) (hts (.fieldLink RX1 7 "NestCellsModel" "cells" "[I") (by decide +kernel)) (fun _ h9 => h9) rfl dX1_format_14 ?_
      refine lv_iload_n hx hb dX1_format_17 rfl (lv_at hl 1 rfl) ?_
      refine lv_iconst (v := (nI 0)) hx hb dX1_format_18 (by decide) ?_
      refine kv_iast hx hb hK hP hD hS 1 0 rfl rfl (by omega) (by omega) dX1_format_19 (fun H locs hP hD hS => ?_)
      have hP : va_P (dC, dI) vwCl (wX1 cA g0 r1 r2 r3 r4 r5 (upd (kx_fill ce (nI 0) t) t (nI 0)) (kx_fill w (nI 0) 0) we wr nm n T (nI 0) off told wia) H := hP
      have hD : va_D A (wX1 cA g0 r1 r2 r3 r4 r5 (upd (kx_fill ce (nI 0) t) t (nI 0)) (kx_fill w (nI 0) 0) we wr nm n T (nI 0) off told wia) := hD
      refine lv_iinc (v := (nI (t + 1))) (lv' := [(1, .int (nI (t + 1))), (0, .ref g0)]) hx hb dX1_format_20 hl (k := 1) rfl (kv_inc _ 1 (by decide)) (by decide) rfl (fun ls hl => ?_)
      refine lv_goto (tgt := 7) hx hb dX1_format_23 (by decide) ?_
      have hP : va_P (dC, dI) vwCl (wX1 cA g0 r1 r2 r3 r4 r5 (kx_fill ce (nI 0) (t + 1)) (kx_fill w (nI 0) 0) we wr nm n T (nI 0) off told wia) H := by rw [← kx_fill_s ce]; exact hP
      have hD : va_D A (wX1 cA g0 r1 r2 r3 r4 r5 (kx_fill ce (nI 0) (t + 1)) (kx_fill w (nI 0) 0) we wr nm n T (nI 0) off told wia) := by rw [← kx_fill_s ce]; exact hD
      exact ih (t + 1) (by omega) _ _ _ hP hD hS (lv_sub hl [1, 0] rfl)
  exact lp 32 0 (by omega) _ _ _ hP hD hS (lv_sub hl [1, 0] rfl)
set_option maxHeartbeats 4000000 in
set_option maxRecDepth 100000 in
/-- NestCellsModel.begin  -/
theorem c_X1_begin (l : Launch) (dC : Nat → ClassId) (dI : Nat → Nat → Nat) (cA : ClassId) (g0 r1 r2 r3 r4 r5 : Nat) (ce w we wr nm : Nat → Int32) (n T : Nat) (cd off told wia : Int32)  (ho : off = 0) (hT8 : T < 8) (hn : n < 88) : kMi l yX1_begin wsX1_begin ({ frames := 1, cells := 0, slots := 0, locals := 22 }) dC dI [(cA, .int)] (wX1 cA g0 r1 r2 r3 r4 r5 ce w we wr nm n T cd off told wia) [.ref g0] (nI (T + 1)) (wX1 cA g0 r1 r2 r3 r4 r5 ce w (rx_op we ce n 32) (upd wr n (nI 0)) (upd nm n (-1)) (n + 1) (T + 1) (nI 0) off told wia) := by
  refine kMi_of (cc := cX1_begin) (maxL := 1) (ret := (some .int)) (by decide) rfl (Nat.le_of_ble_eq_true rfl) ?_
  intro p e s m below meth c A ls hx hb hml hr hts hown hlocks hA hP hK hD hS hl
  have hin : ∀ w ∈ u_ws RX1 TX1 11, w ∈ wsX1_begin := by decide +kernel
  have hl : lv_has ls 1 [(0, .ref g0)] := hl
  refine lv_aload_n hx hb dX1_begin_0 rfl (lv_at hl 0 rfl) ?_
  refine lv_aload_n hx hb dX1_begin_1 rfl (lv_at hl 0 rfl) ?_
  refine va_get (D := (dC, dI)) (ci := 1) (v := .int off) (C := RX1) (T := TX1) (N := 11) hx hb hts hin hown hK hP 0 rfl rfl 8 (by decide) (hts (.fieldLink RX1 39 "NestCellsModel" "off" "Z") (by decide +kernel)) (fun _ h9 => h9) rfl dX1_begin_2 ?_
  refine lv_if_ne (tgt := 17) hx hb dX1_begin_5 (by decide) (fun h5_0 => absurd h5_0 (fun q => q ho)) (fun h5_0 => ?_)
  refine lv_aload_n hx hb dX1_begin_8 rfl (lv_at hl 0 rfl) ?_
  refine va_get (D := (dC, dI)) (ci := 1) (v := .int (nI T)) (C := RX1) (T := TX1) (N := 11) hx hb hts hin hown hK hP 0 rfl rfl 7 (by decide) (hts (.fieldLink RX1 36 "NestCellsModel" "transactions" "I") (by decide +kernel)) (fun _ h9 => h9) rfl dX1_begin_9 ?_
  refine lv_bipush (v := (nI 8)) hx hb dX1_begin_12 (by decide) ?_
  refine kv_ne (tgt := 21) hx hb (by omega) (by omega) dX1_begin_14 (by decide) (fun h14_0 => ?_) (fun h14_0 => absurd h14_0 (by omega))
  refine lv_iconst (v := (nI 0)) hx hb dX1_begin_21 (by decide) ?_
  refine kv_Vi (Xr := []) (n := 1) (c_X1_refuses_0 l dC dI cA g0 r1 r2 r3 r4 r5 ce w we wr nm n T cd off told wia  ) hx hb hml hown hts gX1_begin_X1_refuses rfl ⟨rfl, rfl⟩ (by decide +kernel) rfl ⟨Nat.le_of_ble_eq_true rfl, Nat.le_of_ble_eq_true rfl⟩ hK hP hD hS hA [0] [0, 1, 2, 3, 4, 5] [] rfl rfl rfl (by decide) (by decide) (q0 := 0) rfl rfl rfl (by decide) hl.1 rfl (Nat.le_of_ble_eq_true rfl) dX1_begin_22 ⟨Nat.zero_le _, Nat.zero_le _⟩ (fun H locs hP hD hS => ?_)
  have hP : va_P (dC, dI) vwCl (wX1 cA g0 r1 r2 r3 r4 r5 ce w we wr nm n T (nI 0) off told wia) H := hP
  have hD : va_D A (wX1 cA g0 r1 r2 r3 r4 r5 ce w we wr nm n T (nI 0) off told wia) := hD
  refine kv_if_eq (tgt := 30) hx hb (by omega) dX1_begin_25 (by decide) (fun _ => ?_) (fun h9 => absurd h9 (by omega))
  refine lv_aload_n hx hb dX1_begin_30 rfl (lv_at hl 0 rfl) ?_
  refine lv_iconst (v := (-1)) hx hb dX1_begin_31 (by decide) ?_
  refine kv_Vv (Xr := []) (n := 1) (c_X1_opens l dC dI cA g0 r1 r2 r3 r4 r5 ce w we wr nm n T (nI 0) off told wia (-1) (by omega)) hx hb hml hown hts gX1_begin_X1_opens rfl ⟨rfl, rfl⟩ (by decide +kernel) rfl ⟨Nat.le_of_ble_eq_true rfl, Nat.le_of_ble_eq_true rfl⟩ hK hP hD hS hA [0] [0, 1, 2, 3, 4, 5] [] rfl rfl rfl (by decide) (by decide) (q0 := 0) rfl rfl rfl (by decide) hl.1 rfl (Nat.le_of_ble_eq_true rfl) dX1_begin_32 ⟨Nat.zero_le _, Nat.zero_le _⟩ (fun H locs hP hD hS => ?_)
  have hP : va_P (dC, dI) vwCl (wX1 cA g0 r1 r2 r3 r4 r5 ce w (rx_op we ce n 32) (upd wr n (nI 0)) (upd nm n (-1)) (n + 1) T (nI 0) off told wia) H := hP
  have hD : va_D A (wX1 cA g0 r1 r2 r3 r4 r5 ce w (rx_op we ce n 32) (upd wr n (nI 0)) (upd nm n (-1)) (n + 1) T (nI 0) off told wia) := hD
  refine lv_aload_n hx hb dX1_begin_35 rfl (lv_at hl 0 rfl) ?_
  refine lv_dup hx hb dX1_begin_36 rfl ?_
  refine va_get (D := (dC, dI)) (ci := 1) (v := .int (nI T)) (C := RX1) (T := TX1) (N := 11) hx hb hts hin hown hK hP 0 rfl rfl 7 (by decide) (hts (.fieldLink RX1 36 "NestCellsModel" "transactions" "I") (by decide +kernel)) (fun _ h9 => h9) rfl dX1_begin_37 ?_
  refine lv_iconst (v := (nI 1)) hx hb dX1_begin_40 (by decide) ?_
  refine kv_addE (d := T + 1) hx hb (by omega) dX1_begin_41 ?_
  refine va_put (D := (dC, dI)) (ci := 1) (v := .int (nI (T + 1))) (ty := .int) (C := RX1) (T := TX1) (N := 11) hx hb hts hin tyX1 tyX1_ok nmX1 hown hK hP hD hS 0 rfl rfl 7 (by decide) (hts (.fieldLink RX1 36 "NestCellsModel" "transactions" "I") (by decide +kernel)) (fun _ h9 => h9) rfl (by decide +kernel) rfl rfl (Nat.le_of_ble_eq_true rfl) dX1_begin_42 (fun H locs hP hD hS => ?_)
  have hP : va_P (dC, dI) vwCl (wX1 cA g0 r1 r2 r3 r4 r5 ce w (rx_op we ce n 32) (upd wr n (nI 0)) (upd nm n (-1)) (n + 1) (T + 1) (nI 0) off told wia) H := hP
  have hD : va_D A (wX1 cA g0 r1 r2 r3 r4 r5 ce w (rx_op we ce n 32) (upd wr n (nI 0)) (upd nm n (-1)) (n + 1) (T + 1) (nI 0) off told wia) := hD
  refine lv_aload_n hx hb dX1_begin_45 rfl (lv_at hl 0 rfl) ?_
  refine va_get (D := (dC, dI)) (ci := 1) (v := .int (nI (T + 1))) (C := RX1) (T := TX1) (N := 11) hx hb hts hin hown hK hP 0 rfl rfl 7 (by decide) (hts (.fieldLink RX1 36 "NestCellsModel" "transactions" "I") (by decide +kernel)) (fun _ h9 => h9) rfl dX1_begin_46 ?_
  exact kMi_ret hx hb hr hlocks hP hK hD hS dX1_begin_49 rfl rfl
set_option maxHeartbeats 4000000 in
set_option maxRecDepth 100000 in
/-- NestCellsModel.begin_x  -/
theorem c_X1_begin_x (l : Launch) (dC : Nat → ClassId) (dI : Nat → Nat → Nat) (cA : ClassId) (g0 r1 r2 r3 r4 r5 : Nat) (ce w we wr nm : Nat → Int32) (n T : Nat) (cd off told wia : Int32)  (hx8 : ¬ off = 0 ∨ T = 8) (hT8 : T ≤ 8) : kMi l yX1_begin wsX1_begin ({ frames := 1, cells := 0, slots := 0, locals := 22 }) dC dI [(cA, .int)] (wX1 cA g0 r1 r2 r3 r4 r5 ce w we wr nm n T cd off told wia) [.ref g0] (nI 0) (wX1 cA g0 r1 r2 r3 r4 r5 ce w we wr nm n T (nI 1) off told wia) := by
  refine kMi_of (cc := cX1_begin) (maxL := 1) (ret := (some .int)) (by decide) rfl (Nat.le_of_ble_eq_true rfl) ?_
  intro p e s m below meth c A ls hx hb hml hr hts hown hlocks hA hP hK hD hS hl
  have hin : ∀ w ∈ u_ws RX1 TX1 11, w ∈ wsX1_begin := by decide +kernel
  have hl : lv_has ls 1 [(0, .ref g0)] := hl
  refine lv_aload_n hx hb dX1_begin_0 rfl (lv_at hl 0 rfl) ?_
  refine lv_aload_n hx hb dX1_begin_1 rfl (lv_at hl 0 rfl) ?_
  refine va_get (D := (dC, dI)) (ci := 1) (v := .int off) (C := RX1) (T := TX1) (N := 11) hx hb hts hin hown hK hP 0 rfl rfl 8 (by decide) (hts (.fieldLink RX1 39 "NestCellsModel" "off" "Z") (by decide +kernel)) (fun _ h9 => h9) rfl dX1_begin_2 ?_
  refine lv_if_ne (tgt := 17) hx hb dX1_begin_5 (by decide) (fun h5_0 => ?_) (fun h5_0 => ?_)
  · skip
    refine lv_iconst (v := (nI 1)) hx hb dX1_begin_17 (by decide) ?_
    refine lv_goto (tgt := 22) hx hb dX1_begin_18 (by decide) ?_
    refine kv_Vi (Xr := []) (n := 1) (c_X1_refuses_1 l dC dI cA g0 r1 r2 r3 r4 r5 ce w we wr nm n T cd off told wia  ) hx hb hml hown hts gX1_begin_X1_refuses rfl ⟨rfl, rfl⟩ (by decide +kernel) rfl ⟨Nat.le_of_ble_eq_true rfl, Nat.le_of_ble_eq_true rfl⟩ hK hP hD hS hA [0] [0, 1, 2, 3, 4, 5] [] rfl rfl rfl (by decide) (by decide) (q0 := 0) rfl rfl rfl (by decide) hl.1 rfl (Nat.le_of_ble_eq_true rfl) dX1_begin_22 ⟨Nat.zero_le _, Nat.zero_le _⟩ (fun H locs hP hD hS => ?_)
    have hP : va_P (dC, dI) vwCl (wX1 cA g0 r1 r2 r3 r4 r5 ce w we wr nm n T (nI 1) off told wia) H := hP
    have hD : va_D A (wX1 cA g0 r1 r2 r3 r4 r5 ce w we wr nm n T (nI 1) off told wia) := hD
    refine kv_if_eq (tgt := 30) hx hb (by omega) dX1_begin_25 (by decide) (fun h9 => absurd h9 (by omega)) (fun _ => ?_)
    refine lv_iconst (v := (nI 0)) hx hb dX1_begin_28 (by decide) ?_
    exact kMi_ret hx hb hr hlocks hP hK hD hS dX1_begin_29 rfl rfl
  · skip
    refine lv_aload_n hx hb dX1_begin_8 rfl (lv_at hl 0 rfl) ?_
    refine va_get (D := (dC, dI)) (ci := 1) (v := .int (nI T)) (C := RX1) (T := TX1) (N := 11) hx hb hts hin hown hK hP 0 rfl rfl 7 (by decide) (hts (.fieldLink RX1 36 "NestCellsModel" "transactions" "I") (by decide +kernel)) (fun _ h9 => h9) rfl dX1_begin_9 ?_
    refine lv_bipush (v := (nI 8)) hx hb dX1_begin_12 (by decide) ?_
    refine kv_ne (tgt := 21) hx hb (by omega) (by omega) dX1_begin_14 (by decide) (fun h14_1 => absurd h14_1 (fun q => q (hx8.resolve_left (fun r => r h5_0)))) (fun h14_1 => ?_)
    refine lv_iconst (v := (nI 1)) hx hb dX1_begin_17 (by decide) ?_
    refine lv_goto (tgt := 22) hx hb dX1_begin_18 (by decide) ?_
    refine kv_Vi (Xr := []) (n := 1) (c_X1_refuses_1 l dC dI cA g0 r1 r2 r3 r4 r5 ce w we wr nm n T cd off told wia  ) hx hb hml hown hts gX1_begin_X1_refuses rfl ⟨rfl, rfl⟩ (by decide +kernel) rfl ⟨Nat.le_of_ble_eq_true rfl, Nat.le_of_ble_eq_true rfl⟩ hK hP hD hS hA [0] [0, 1, 2, 3, 4, 5] [] rfl rfl rfl (by decide) (by decide) (q0 := 0) rfl rfl rfl (by decide) hl.1 rfl (Nat.le_of_ble_eq_true rfl) dX1_begin_22 ⟨Nat.zero_le _, Nat.zero_le _⟩ (fun H locs hP hD hS => ?_)
    have hP : va_P (dC, dI) vwCl (wX1 cA g0 r1 r2 r3 r4 r5 ce w we wr nm n T (nI 1) off told wia) H := hP
    have hD : va_D A (wX1 cA g0 r1 r2 r3 r4 r5 ce w we wr nm n T (nI 1) off told wia) := hD
    refine kv_if_eq (tgt := 30) hx hb (by omega) dX1_begin_25 (by decide) (fun h9 => absurd h9 (by omega)) (fun _ => ?_)
    refine lv_iconst (v := (nI 0)) hx hb dX1_begin_28 (by decide) ?_
    exact kMi_ret hx hb hr hlocks hP hK hD hS dX1_begin_29 rfl rfl
set_option maxHeartbeats 4000000 in
set_option maxRecDepth 100000 in
/-- NestCellsModel.write_a  -/
theorem c_X1_write_a (l : Launch) (dC : Nat → ClassId) (dI : Nat → Nat → Nat) (cA : ClassId) (g0 r1 r2 r3 r4 r5 : Nat) (ce w we wr nm : Nat → Int32) (n T : Nat) (cd off told wia : Int32) (cell : Int32) (v : Int32) (hc : kx_isCell cell = 0) : kMi l yX1_write wsX1_write ({ frames := 2, cells := 0, slots := 0, locals := 44 }) dC dI [(cA, .int)] (wX1 cA g0 r1 r2 r3 r4 r5 ce w we wr nm n T cd off told wia) [.ref g0, .int cell, .int v] (nI 0) (wX1 cA g0 r1 r2 r3 r4 r5 ce w we wr nm n T (nI 1) off told wia) := by
  refine kMi_of (cc := cX1_write) (maxL := 6) (ret := (some .int)) (by decide) rfl (Nat.le_of_ble_eq_true rfl) ?_
  intro p e s m below meth c A ls hx hb hml hr hts hown hlocks hA hP hK hD hS hl
  have hin : ∀ w ∈ u_ws RX1 TX1 11, w ∈ wsX1_write := by decide +kernel
  have hl : lv_has ls 6 [(0, .ref g0), (1, .int cell), (2, .int v)] := hl
  refine lv_aload_n hx hb dX1_write_0 rfl (lv_at hl 0 rfl) ?_
  refine lv_iload_n hx hb dX1_write_1 rfl (lv_at hl 1 rfl) ?_
  refine kv_Si (Xr := wX1 cA g0 r1 r2 r3 r4 r5 ce w we wr nm n T cd off told wia) (n := 1) (c_X1_isCell l dC dI   cell ) hx hb hml hown hts gX1_write_X1_isCell rfl ⟨rfl, rfl⟩ (by decide +kernel) rfl ⟨Nat.le_of_ble_eq_true rfl, Nat.le_of_ble_eq_true rfl⟩ hK hP hD hS hA [] [] [0, 1, 2, 3, 4, 5] rfl rfl rfl (by decide) (by decide) rfl (by decide) hl.1 rfl (Nat.le_of_ble_eq_true rfl) dX1_write_2 ⟨Nat.zero_le _, Nat.zero_le _⟩ (fun H locs hP hD hS => ?_)
  have hP : va_P (dC, dI) vwCl (wX1 cA g0 r1 r2 r3 r4 r5 ce w we wr nm n T cd off told wia) H := hP
  have hD : va_D A (wX1 cA g0 r1 r2 r3 r4 r5 ce w we wr nm n T cd off told wia) := hD
  refine lv_if_ne (tgt := 12) hx hb dX1_write_5 (by decide) (fun h5_0 => absurd h5_0 (fun q => q hc)) (fun h5_0 => ?_)
  refine lv_iconst (v := (nI 1)) hx hb dX1_write_8 (by decide) ?_
  refine lv_goto (tgt := 31) hx hb dX1_write_9 (by decide) ?_
  refine kv_Vi (Xr := []) (n := 1) (c_X1_refuses_1 l dC dI cA g0 r1 r2 r3 r4 r5 ce w we wr nm n T cd off told wia  ) hx hb hml hown hts gX1_write_X1_refuses rfl ⟨rfl, rfl⟩ (by decide +kernel) rfl ⟨Nat.le_of_ble_eq_true rfl, Nat.le_of_ble_eq_true rfl⟩ hK hP hD hS hA [0] [0, 1, 2, 3, 4, 5] [] rfl rfl rfl (by decide) (by decide) (q0 := 0) rfl rfl rfl (by decide) hl.1 rfl (Nat.le_of_ble_eq_true rfl) dX1_write_31 ⟨Nat.zero_le _, Nat.zero_le _⟩ (fun H locs hP hD hS => ?_)
  have hP : va_P (dC, dI) vwCl (wX1 cA g0 r1 r2 r3 r4 r5 ce w we wr nm n T (nI 1) off told wia) H := hP
  have hD : va_D A (wX1 cA g0 r1 r2 r3 r4 r5 ce w we wr nm n T (nI 1) off told wia) := hD
  refine kv_if_eq (tgt := 39) hx hb (by omega) dX1_write_34 (by decide) (fun h9 => absurd h9 (by omega)) (fun _ => ?_)
  refine lv_iconst (v := (nI 0)) hx hb dX1_write_37 (by decide) ?_
  exact kMi_ret hx hb hr hlocks hP hK hD hS dX1_write_38 rfl rfl
set_option maxHeartbeats 4000000 in
set_option maxRecDepth 100000 in
/-- NestCellsModel.write_b  -/
theorem c_X1_write_b (l : Launch) (dC : Nat → ClassId) (dI : Nat → Nat → Nat) (cA : ClassId) (g0 r1 r2 r3 r4 r5 : Nat) (ce w we wr nm : Nat → Int32) (n T : Nat) (cd off told wia : Int32) (cell : Nat) (v : Int32) (hc : cell < 32) (hx9 : ¬ off = 0 ∨ T = 0) (hT8 : T ≤ 8) : kMi l yX1_write wsX1_write ({ frames := 2, cells := 0, slots := 0, locals := 44 }) dC dI [(cA, .int)] (wX1 cA g0 r1 r2 r3 r4 r5 ce w we wr nm n T cd off told wia) [.ref g0, .int (nI cell), .int v] (nI 0) (wX1 cA g0 r1 r2 r3 r4 r5 ce w we wr nm n T (nI 2) off told wia) := by
  refine kMi_of (cc := cX1_write) (maxL := 6) (ret := (some .int)) (by decide) rfl (Nat.le_of_ble_eq_true rfl) ?_
  intro p e s m below meth c A ls hx hb hml hr hts hown hlocks hA hP hK hD hS hl
  have hin : ∀ w ∈ u_ws RX1 TX1 11, w ∈ wsX1_write := by decide +kernel
  have hl : lv_has ls 6 [(0, .ref g0), (1, .int (nI cell)), (2, .int v)] := hl
  refine lv_aload_n hx hb dX1_write_0 rfl (lv_at hl 0 rfl) ?_
  refine lv_iload_n hx hb dX1_write_1 rfl (lv_at hl 1 rfl) ?_
  refine kv_Si (Xr := wX1 cA g0 r1 r2 r3 r4 r5 ce w we wr nm n T cd off told wia) (n := 1) (c_X1_isCell l dC dI   (nI cell) ) hx hb hml hown hts gX1_write_X1_isCell rfl ⟨rfl, rfl⟩ (by decide +kernel) rfl ⟨Nat.le_of_ble_eq_true rfl, Nat.le_of_ble_eq_true rfl⟩ hK hP hD hS hA [] [] [0, 1, 2, 3, 4, 5] rfl rfl rfl (by decide) (by decide) rfl (by decide) hl.1 rfl (Nat.le_of_ble_eq_true rfl) dX1_write_2 ⟨Nat.zero_le _, Nat.zero_le _⟩ (fun H locs hP hD hS => ?_)
  have hP : va_P (dC, dI) vwCl (wX1 cA g0 r1 r2 r3 r4 r5 ce w we wr nm n T cd off told wia) H := hP
  have hD : va_D A (wX1 cA g0 r1 r2 r3 r4 r5 ce w we wr nm n T cd off told wia) := hD
  refine lv_if_ne (tgt := 12) hx hb dX1_write_5 (by decide) (fun h5_0 => ?_) (fun h5_0 => absurd h5_0 (by rw [kx_isCell_n hc]; exact kv_n10))
  refine lv_aload_n hx hb dX1_write_12 rfl (lv_at hl 0 rfl) ?_
  refine va_get (D := (dC, dI)) (ci := 1) (v := .int off) (C := RX1) (T := TX1) (N := 11) hx hb hts hin hown hK hP 0 rfl rfl 8 (by decide) (hts (.fieldLink RX1 39 "NestCellsModel" "off" "Z") (by decide +kernel)) (fun _ h9 => h9) rfl dX1_write_13 ?_
  refine lv_if_ne (tgt := 26) hx hb dX1_write_16 (by decide) (fun h16_0 => ?_) (fun h16_0 => ?_)
  · skip
    refine lv_iconst (v := (nI 2)) hx hb dX1_write_26 (by decide) ?_
    refine lv_goto (tgt := 31) hx hb dX1_write_27 (by decide) ?_
    refine kv_Vi (Xr := []) (n := 1) (c_X1_refuses_2 l dC dI cA g0 r1 r2 r3 r4 r5 ce w we wr nm n T cd off told wia  ) hx hb hml hown hts gX1_write_X1_refuses rfl ⟨rfl, rfl⟩ (by decide +kernel) rfl ⟨Nat.le_of_ble_eq_true rfl, Nat.le_of_ble_eq_true rfl⟩ hK hP hD hS hA [0] [0, 1, 2, 3, 4, 5] [] rfl rfl rfl (by decide) (by decide) (q0 := 0) rfl rfl rfl (by decide) hl.1 rfl (Nat.le_of_ble_eq_true rfl) dX1_write_31 ⟨Nat.zero_le _, Nat.zero_le _⟩ (fun H locs hP hD hS => ?_)
    have hP : va_P (dC, dI) vwCl (wX1 cA g0 r1 r2 r3 r4 r5 ce w we wr nm n T (nI 2) off told wia) H := hP
    have hD : va_D A (wX1 cA g0 r1 r2 r3 r4 r5 ce w we wr nm n T (nI 2) off told wia) := hD
    refine kv_if_eq (tgt := 39) hx hb (by omega) dX1_write_34 (by decide) (fun h9 => absurd h9 (by omega)) (fun _ => ?_)
    refine lv_iconst (v := (nI 0)) hx hb dX1_write_37 (by decide) ?_
    exact kMi_ret hx hb hr hlocks hP hK hD hS dX1_write_38 rfl rfl
  · skip
    refine lv_aload_n hx hb dX1_write_19 rfl (lv_at hl 0 rfl) ?_
    refine va_get (D := (dC, dI)) (ci := 1) (v := .int (nI T)) (C := RX1) (T := TX1) (N := 11) hx hb hts hin hown hK hP 0 rfl rfl 7 (by decide) (hts (.fieldLink RX1 36 "NestCellsModel" "transactions" "I") (by decide +kernel)) (fun _ h9 => h9) rfl dX1_write_20 ?_
    refine kv_if_ne (tgt := 30) hx hb (by omega) dX1_write_23 (by decide) (fun h23_1 => absurd h23_1 (by have r9 := hx9.resolve_left (fun r => r h16_0); omega)) (fun h23_1 => ?_)
    refine lv_iconst (v := (nI 2)) hx hb dX1_write_26 (by decide) ?_
    refine lv_goto (tgt := 31) hx hb dX1_write_27 (by decide) ?_
    refine kv_Vi (Xr := []) (n := 1) (c_X1_refuses_2 l dC dI cA g0 r1 r2 r3 r4 r5 ce w we wr nm n T cd off told wia  ) hx hb hml hown hts gX1_write_X1_refuses rfl ⟨rfl, rfl⟩ (by decide +kernel) rfl ⟨Nat.le_of_ble_eq_true rfl, Nat.le_of_ble_eq_true rfl⟩ hK hP hD hS hA [0] [0, 1, 2, 3, 4, 5] [] rfl rfl rfl (by decide) (by decide) (q0 := 0) rfl rfl rfl (by decide) hl.1 rfl (Nat.le_of_ble_eq_true rfl) dX1_write_31 ⟨Nat.zero_le _, Nat.zero_le _⟩ (fun H locs hP hD hS => ?_)
    have hP : va_P (dC, dI) vwCl (wX1 cA g0 r1 r2 r3 r4 r5 ce w we wr nm n T (nI 2) off told wia) H := hP
    have hD : va_D A (wX1 cA g0 r1 r2 r3 r4 r5 ce w we wr nm n T (nI 2) off told wia) := hD
    refine kv_if_eq (tgt := 39) hx hb (by omega) dX1_write_34 (by decide) (fun h9 => absurd h9 (by omega)) (fun _ => ?_)
    refine lv_iconst (v := (nI 0)) hx hb dX1_write_37 (by decide) ?_
    exact kMi_ret hx hb hr hlocks hP hK hD hS dX1_write_38 rfl rfl
set_option maxHeartbeats 4000000 in
set_option maxRecDepth 100000 in
/-- NestCellsModel.write_c  -/
theorem c_X1_write_c (l : Launch) (dC : Nat → ClassId) (dI : Nat → Nat → Nat) (cA : ClassId) (g0 r1 r2 r3 r4 r5 : Nat) (ce w we wr nm : Nat → Int32) (n T : Nat) (cd off told wia : Int32) (cell : Nat) (v : Int32) (hc : cell < 32) (ho : off = 0) (hT : 0 < T) (hT8 : T ≤ 8) (hn : n ≤ 88) (hn1 : 1 ≤ n) (hm0 : mo_b (wr (n - 1)) cell = 0) (h60 : rx_tr wr n = 60) : kMi l yX1_write wsX1_write ({ frames := 2, cells := 0, slots := 0, locals := 44 }) dC dI [(cA, .int)] (wX1 cA g0 r1 r2 r3 r4 r5 ce w we wr nm n T cd off told wia) [.ref g0, .int (nI cell), .int v] (nI 0) (wX1 cA g0 r1 r2 r3 r4 r5 ce w we wr nm n T (nI 2) off told wia) := by
  refine kMi_of (cc := cX1_write) (maxL := 6) (ret := (some .int)) (by decide) rfl (Nat.le_of_ble_eq_true rfl) ?_
  intro p e s m below meth c A ls hx hb hml hr hts hown hlocks hA hP hK hD hS hl
  have hin : ∀ w ∈ u_ws RX1 TX1 11, w ∈ wsX1_write := by decide +kernel
  have hl : lv_has ls 6 [(0, .ref g0), (1, .int (nI cell)), (2, .int v)] := hl
  have hmbl := mo_b_le (wr (n - 1)) cell
  have htl := rx_tr_le wr n
  refine lv_aload_n hx hb dX1_write_0 rfl (lv_at hl 0 rfl) ?_
  refine lv_iload_n hx hb dX1_write_1 rfl (lv_at hl 1 rfl) ?_
  refine kv_Si (Xr := wX1 cA g0 r1 r2 r3 r4 r5 ce w we wr nm n T cd off told wia) (n := 1) (c_X1_isCell l dC dI   (nI cell) ) hx hb hml hown hts gX1_write_X1_isCell rfl ⟨rfl, rfl⟩ (by decide +kernel) rfl ⟨Nat.le_of_ble_eq_true rfl, Nat.le_of_ble_eq_true rfl⟩ hK hP hD hS hA [] [] [0, 1, 2, 3, 4, 5] rfl rfl rfl (by decide) (by decide) rfl (by decide) hl.1 rfl (Nat.le_of_ble_eq_true rfl) dX1_write_2 ⟨Nat.zero_le _, Nat.zero_le _⟩ (fun H locs hP hD hS => ?_)
  have hP : va_P (dC, dI) vwCl (wX1 cA g0 r1 r2 r3 r4 r5 ce w we wr nm n T cd off told wia) H := hP
  have hD : va_D A (wX1 cA g0 r1 r2 r3 r4 r5 ce w we wr nm n T cd off told wia) := hD
  refine lv_if_ne (tgt := 12) hx hb dX1_write_5 (by decide) (fun h5_0 => ?_) (fun h5_0 => absurd h5_0 (by rw [kx_isCell_n hc]; exact kv_n10))
  refine lv_aload_n hx hb dX1_write_12 rfl (lv_at hl 0 rfl) ?_
  refine va_get (D := (dC, dI)) (ci := 1) (v := .int off) (C := RX1) (T := TX1) (N := 11) hx hb hts hin hown hK hP 0 rfl rfl 8 (by decide) (hts (.fieldLink RX1 39 "NestCellsModel" "off" "Z") (by decide +kernel)) (fun _ h9 => h9) rfl dX1_write_13 ?_
  refine lv_if_ne (tgt := 26) hx hb dX1_write_16 (by decide) (fun h16_0 => absurd h16_0 (fun q => q ho)) (fun h16_0 => ?_)
  refine lv_aload_n hx hb dX1_write_19 rfl (lv_at hl 0 rfl) ?_
  refine va_get (D := (dC, dI)) (ci := 1) (v := .int (nI T)) (C := RX1) (T := TX1) (N := 11) hx hb hts hin hown hK hP 0 rfl rfl 7 (by decide) (hts (.fieldLink RX1 36 "NestCellsModel" "transactions" "I") (by decide +kernel)) (fun _ h9 => h9) rfl dX1_write_20 ?_
  refine kv_if_ne (tgt := 30) hx hb (by omega) dX1_write_23 (by decide) (fun h23_0 => ?_) (fun h23_0 => absurd h23_0 (by omega))
  refine lv_iconst (v := (nI 0)) hx hb dX1_write_30 (by decide) ?_
  refine kv_Vi (Xr := []) (n := 1) (c_X1_refuses_0 l dC dI cA g0 r1 r2 r3 r4 r5 ce w we wr nm n T cd off told wia  ) hx hb hml hown hts gX1_write_X1_refuses rfl ⟨rfl, rfl⟩ (by decide +kernel) rfl ⟨Nat.le_of_ble_eq_true rfl, Nat.le_of_ble_eq_true rfl⟩ hK hP hD hS hA [0] [0, 1, 2, 3, 4, 5] [] rfl rfl rfl (by decide) (by decide) (q0 := 0) rfl rfl rfl (by decide) hl.1 rfl (Nat.le_of_ble_eq_true rfl) dX1_write_31 ⟨Nat.zero_le _, Nat.zero_le _⟩ (fun H locs hP hD hS => ?_)
  have hP : va_P (dC, dI) vwCl (wX1 cA g0 r1 r2 r3 r4 r5 ce w we wr nm n T (nI 0) off told wia) H := hP
  have hD : va_D A (wX1 cA g0 r1 r2 r3 r4 r5 ce w we wr nm n T (nI 0) off told wia) := hD
  refine kv_if_eq (tgt := 39) hx hb (by omega) dX1_write_34 (by decide) (fun _ => ?_) (fun h9 => absurd h9 (by omega))
  refine lv_aload_n hx hb dX1_write_39 rfl (lv_at hl 0 rfl) ?_
  refine va_get (D := (dC, dI)) (ci := 1) (v := .int (nI n)) (C := RX1) (T := TX1) (N := 11) hx hb hts hin hown hK hP 0 rfl rfl 6 (by decide) (hts (.fieldLink RX1 29 "NestCellsModel" "levels" "I") (by decide +kernel)) (fun _ h9 => h9) rfl dX1_write_40 ?_
  refine lv_iconst (v := (nI 1)) hx hb dX1_write_43 (by decide) ?_
  refine kv_subE (d := n - 1) hx hb (by omega) dX1_write_44 ?_
  refine lv_istore_n (lv' := [(3, .int (nI (n - 1))), (0, .ref g0), (1, .int (nI cell)), (2, .int v)]) hx hb dX1_write_45 rfl hl (by decide) rfl (fun ls hl => ?_)
  refine lv_aload_n hx hb dX1_write_46 rfl (lv_at hl 1 rfl) ?_
  refine va_get (D := (dC, dI)) (ci := 1) (v := .ref r4) (C := RX1) (T := TX1) (N := 11) hx hb hts hin hown hK hP 0 rfl rfl 4 (by decide) (hts (.fieldLink RX1 19 "NestCellsModel" "written" "[I") (by decide +kernel)) (fun _ h9 => h9) rfl dX1_write_47 ?_
  refine lv_iload_n hx hb dX1_write_50 rfl (lv_at hl 0 rfl) ?_
  refine kv_iald hx hb hK hP 4 0 rfl rfl (by omega) (by omega) dX1_write_51 ?_
  refine lv_iload_n hx hb dX1_write_52 rfl (lv_at hl 2 rfl) ?_
  refine lv_ishr hx hb dX1_write_53 ?_
  refine lv_iconst (v := (nI 1)) hx hb dX1_write_54 (by decide) ?_
  refine lv_iand hx hb dX1_write_55 ?_
  refine kv_top (w := .int (nI (mo_b (wr (n - 1)) cell))) (by rw [mb_shr _ hc]) ?_
  refine lv_iconst (v := (nI 1)) hx hb dX1_write_56 (by decide) ?_
  refine kv_ne (tgt := 64) hx hb (by omega) (by omega) dX1_write_57 (by decide) (fun h57_0 => ?_) (fun h57_0 => absurd h57_0 (by omega))
  refine lv_iconst (v := (nI 0)) hx hb dX1_write_64 (by decide) ?_
  refine lv_istore (lv' := [(4, .int (nI 0)), (3, .int (nI (n - 1))), (0, .ref g0), (1, .int (nI cell)), (2, .int v)]) hx hb dX1_write_65 hl (by decide) rfl (fun ls hl => ?_)
  refine lv_aload_n hx hb dX1_write_67 rfl (lv_at hl 2 rfl) ?_
  refine lv_iload hx hb dX1_write_68 (lv_at hl 0 rfl) ?_
  refine kv_if_ne (tgt := 86) hx hb (by omega) dX1_write_70 (by decide) (fun h9 => absurd h9 (by omega)) (fun _ => ?_)
  refine lv_aload_n hx hb dX1_write_73 rfl (lv_at hl 2 rfl) ?_
  refine kv_Vi (Xr := []) (n := 0) (c_X1_traces l dC dI cA g0 r1 r2 r3 r4 r5 ce w we wr nm n T (nI 0) off told wia  (by omega)) hx hb hml hown hts gX1_write_X1_traces rfl ⟨rfl, rfl⟩ (by decide +kernel) rfl ⟨Nat.le_of_ble_eq_true rfl, Nat.le_of_ble_eq_true rfl⟩ hK hP hD hS hA [0] [0, 1, 2, 3, 4, 5] [] rfl rfl rfl (by decide) (by decide) (q0 := 0) rfl rfl rfl (by decide) hl.1 rfl (Nat.le_of_ble_eq_true rfl) dX1_write_74 ⟨Nat.zero_le _, Nat.zero_le _⟩ (fun H locs hP hD hS => ?_)
  have hP : va_P (dC, dI) vwCl (wX1 cA g0 r1 r2 r3 r4 r5 ce w we wr nm n T (nI 0) off told wia) H := hP
  have hD : va_D A (wX1 cA g0 r1 r2 r3 r4 r5 ce w we wr nm n T (nI 0) off told wia) := hD
  refine lv_bipush (v := (nI 60)) hx hb dX1_write_77 (by decide) ?_
  refine kv_ne (tgt := 86) hx hb (by omega) (by omega) dX1_write_79 (by decide) (fun h79_0 => absurd h79_0 (by omega)) (fun h79_0 => ?_)
  refine lv_iconst (v := (nI 2)) hx hb dX1_write_82 (by decide) ?_
  refine lv_goto (tgt := 87) hx hb dX1_write_83 (by decide) ?_
  refine kv_Vi (Xr := []) (n := 1) (c_X1_refuses_2 l dC dI cA g0 r1 r2 r3 r4 r5 ce w we wr nm n T (nI 0) off told wia  ) hx hb hml hown hts gX1_write_X1_refuses rfl ⟨rfl, rfl⟩ (by decide +kernel) rfl ⟨Nat.le_of_ble_eq_true rfl, Nat.le_of_ble_eq_true rfl⟩ hK hP hD hS hA [0] [0, 1, 2, 3, 4, 5] [] rfl rfl rfl (by decide) (by decide) (q0 := 0) rfl rfl rfl (by decide) hl.1 rfl (Nat.le_of_ble_eq_true rfl) dX1_write_87 ⟨Nat.zero_le _, Nat.zero_le _⟩ (fun H locs hP hD hS => ?_)
  have hP : va_P (dC, dI) vwCl (wX1 cA g0 r1 r2 r3 r4 r5 ce w we wr nm n T (nI 2) off told wia) H := hP
  have hD : va_D A (wX1 cA g0 r1 r2 r3 r4 r5 ce w we wr nm n T (nI 2) off told wia) := hD
  refine kv_if_eq (tgt := 95) hx hb (by omega) dX1_write_90 (by decide) (fun h9 => absurd h9 (by omega)) (fun _ => ?_)
  refine lv_iconst (v := (nI 0)) hx hb dX1_write_93 (by decide) ?_
  exact kMi_ret hx hb hr hlocks hP hK hD hS dX1_write_94 rfl rfl
set_option maxHeartbeats 4000000 in
set_option maxRecDepth 100000 in
/-- NestCellsModel.write  -/
theorem c_X1_write (l : Launch) (dC : Nat → ClassId) (dI : Nat → Nat → Nat) (cA : ClassId) (g0 r1 r2 r3 r4 r5 : Nat) (ce w we wr nm : Nat → Int32) (n T : Nat) (cd off told wia : Int32) (cell : Nat) (v : Int32) (hc : cell < 32) (ho : off = 0) (hT : 0 < T) (hT8 : T ≤ 8) (hn : n ≤ 88) (hn1 : 1 ≤ n) (h61 : mo_b (wr (n - 1)) cell = 1 ∨ ¬ rx_tr wr n = 60) : kMi l yX1_write wsX1_write ({ frames := 2, cells := 0, slots := 0, locals := 44 }) dC dI [(cA, .int)] (wX1 cA g0 r1 r2 r3 r4 r5 ce w we wr nm n T cd off told wia) [.ref g0, .int (nI cell), .int v] (ce cell) (wX1 cA g0 r1 r2 r3 r4 r5 (upd ce cell v) w we (upd wr (n - 1) (wr (n - 1) ||| ((nI 1) <<< ((nI cell) &&& 31)))) nm n T (nI 0) off told wia) := by
  refine kMi_of (cc := cX1_write) (maxL := 6) (ret := (some .int)) (by decide) rfl (Nat.le_of_ble_eq_true rfl) ?_
  intro p e s m below meth c A ls hx hb hml hr hts hown hlocks hA hP hK hD hS hl
  have hin : ∀ w ∈ u_ws RX1 TX1 11, w ∈ wsX1_write := by decide +kernel
  have hl : lv_has ls 6 [(0, .ref g0), (1, .int (nI cell)), (2, .int v)] := hl
  have hmbl := mo_b_le (wr (n - 1)) cell
  have htl := rx_tr_le wr n
  refine lv_aload_n hx hb dX1_write_0 rfl (lv_at hl 0 rfl) ?_
  refine lv_iload_n hx hb dX1_write_1 rfl (lv_at hl 1 rfl) ?_
  refine kv_Si (Xr := wX1 cA g0 r1 r2 r3 r4 r5 ce w we wr nm n T cd off told wia) (n := 1) (c_X1_isCell l dC dI   (nI cell) ) hx hb hml hown hts gX1_write_X1_isCell rfl ⟨rfl, rfl⟩ (by decide +kernel) rfl ⟨Nat.le_of_ble_eq_true rfl, Nat.le_of_ble_eq_true rfl⟩ hK hP hD hS hA [] [] [0, 1, 2, 3, 4, 5] rfl rfl rfl (by decide) (by decide) rfl (by decide) hl.1 rfl (Nat.le_of_ble_eq_true rfl) dX1_write_2 ⟨Nat.zero_le _, Nat.zero_le _⟩ (fun H locs hP hD hS => ?_)
  have hP : va_P (dC, dI) vwCl (wX1 cA g0 r1 r2 r3 r4 r5 ce w we wr nm n T cd off told wia) H := hP
  have hD : va_D A (wX1 cA g0 r1 r2 r3 r4 r5 ce w we wr nm n T cd off told wia) := hD
  refine lv_if_ne (tgt := 12) hx hb dX1_write_5 (by decide) (fun h5_0 => ?_) (fun h5_0 => absurd h5_0 (by rw [kx_isCell_n hc]; exact kv_n10))
  refine lv_aload_n hx hb dX1_write_12 rfl (lv_at hl 0 rfl) ?_
  refine va_get (D := (dC, dI)) (ci := 1) (v := .int off) (C := RX1) (T := TX1) (N := 11) hx hb hts hin hown hK hP 0 rfl rfl 8 (by decide) (hts (.fieldLink RX1 39 "NestCellsModel" "off" "Z") (by decide +kernel)) (fun _ h9 => h9) rfl dX1_write_13 ?_
  refine lv_if_ne (tgt := 26) hx hb dX1_write_16 (by decide) (fun h16_0 => absurd h16_0 (fun q => q ho)) (fun h16_0 => ?_)
  refine lv_aload_n hx hb dX1_write_19 rfl (lv_at hl 0 rfl) ?_
  refine va_get (D := (dC, dI)) (ci := 1) (v := .int (nI T)) (C := RX1) (T := TX1) (N := 11) hx hb hts hin hown hK hP 0 rfl rfl 7 (by decide) (hts (.fieldLink RX1 36 "NestCellsModel" "transactions" "I") (by decide +kernel)) (fun _ h9 => h9) rfl dX1_write_20 ?_
  refine kv_if_ne (tgt := 30) hx hb (by omega) dX1_write_23 (by decide) (fun h23_0 => ?_) (fun h23_0 => absurd h23_0 (by omega))
  refine lv_iconst (v := (nI 0)) hx hb dX1_write_30 (by decide) ?_
  refine kv_Vi (Xr := []) (n := 1) (c_X1_refuses_0 l dC dI cA g0 r1 r2 r3 r4 r5 ce w we wr nm n T cd off told wia  ) hx hb hml hown hts gX1_write_X1_refuses rfl ⟨rfl, rfl⟩ (by decide +kernel) rfl ⟨Nat.le_of_ble_eq_true rfl, Nat.le_of_ble_eq_true rfl⟩ hK hP hD hS hA [0] [0, 1, 2, 3, 4, 5] [] rfl rfl rfl (by decide) (by decide) (q0 := 0) rfl rfl rfl (by decide) hl.1 rfl (Nat.le_of_ble_eq_true rfl) dX1_write_31 ⟨Nat.zero_le _, Nat.zero_le _⟩ (fun H locs hP hD hS => ?_)
  have hP : va_P (dC, dI) vwCl (wX1 cA g0 r1 r2 r3 r4 r5 ce w we wr nm n T (nI 0) off told wia) H := hP
  have hD : va_D A (wX1 cA g0 r1 r2 r3 r4 r5 ce w we wr nm n T (nI 0) off told wia) := hD
  refine kv_if_eq (tgt := 39) hx hb (by omega) dX1_write_34 (by decide) (fun _ => ?_) (fun h9 => absurd h9 (by omega))
  refine lv_aload_n hx hb dX1_write_39 rfl (lv_at hl 0 rfl) ?_
  refine va_get (D := (dC, dI)) (ci := 1) (v := .int (nI n)) (C := RX1) (T := TX1) (N := 11) hx hb hts hin hown hK hP 0 rfl rfl 6 (by decide) (hts (.fieldLink RX1 29 "NestCellsModel" "levels" "I") (by decide +kernel)) (fun _ h9 => h9) rfl dX1_write_40 ?_
  refine lv_iconst (v := (nI 1)) hx hb dX1_write_43 (by decide) ?_
  refine kv_subE (d := n - 1) hx hb (by omega) dX1_write_44 ?_
  refine lv_istore_n (lv' := [(3, .int (nI (n - 1))), (0, .ref g0), (1, .int (nI cell)), (2, .int v)]) hx hb dX1_write_45 rfl hl (by decide) rfl (fun ls hl => ?_)
  refine lv_aload_n hx hb dX1_write_46 rfl (lv_at hl 1 rfl) ?_
  refine va_get (D := (dC, dI)) (ci := 1) (v := .ref r4) (C := RX1) (T := TX1) (N := 11) hx hb hts hin hown hK hP 0 rfl rfl 4 (by decide) (hts (.fieldLink RX1 19 "NestCellsModel" "written" "[I") (by decide +kernel)) (fun _ h9 => h9) rfl dX1_write_47 ?_
  refine lv_iload_n hx hb dX1_write_50 rfl (lv_at hl 0 rfl) ?_
  refine kv_iald hx hb hK hP 4 0 rfl rfl (by omega) (by omega) dX1_write_51 ?_
  refine lv_iload_n hx hb dX1_write_52 rfl (lv_at hl 2 rfl) ?_
  refine lv_ishr hx hb dX1_write_53 ?_
  refine lv_iconst (v := (nI 1)) hx hb dX1_write_54 (by decide) ?_
  refine lv_iand hx hb dX1_write_55 ?_
  refine kv_top (w := .int (nI (mo_b (wr (n - 1)) cell))) (by rw [mb_shr _ hc]) ?_
  refine lv_iconst (v := (nI 1)) hx hb dX1_write_56 (by decide) ?_
  refine kv_ne (tgt := 64) hx hb (by omega) (by omega) dX1_write_57 (by decide) (fun h57_0 => ?_) (fun h57_0 => ?_)
  · skip
    refine lv_iconst (v := (nI 0)) hx hb dX1_write_64 (by decide) ?_
    refine lv_istore (lv' := [(4, .int (nI 0)), (3, .int (nI (n - 1))), (0, .ref g0), (1, .int (nI cell)), (2, .int v)]) hx hb dX1_write_65 hl (by decide) rfl (fun ls hl => ?_)
    refine lv_aload_n hx hb dX1_write_67 rfl (lv_at hl 2 rfl) ?_
    refine lv_iload hx hb dX1_write_68 (lv_at hl 0 rfl) ?_
    refine kv_if_ne (tgt := 86) hx hb (by omega) dX1_write_70 (by decide) (fun h9 => absurd h9 (by omega)) (fun _ => ?_)
    refine lv_aload_n hx hb dX1_write_73 rfl (lv_at hl 2 rfl) ?_
    refine kv_Vi (Xr := []) (n := 0) (c_X1_traces l dC dI cA g0 r1 r2 r3 r4 r5 ce w we wr nm n T (nI 0) off told wia  (by omega)) hx hb hml hown hts gX1_write_X1_traces rfl ⟨rfl, rfl⟩ (by decide +kernel) rfl ⟨Nat.le_of_ble_eq_true rfl, Nat.le_of_ble_eq_true rfl⟩ hK hP hD hS hA [0] [0, 1, 2, 3, 4, 5] [] rfl rfl rfl (by decide) (by decide) (q0 := 0) rfl rfl rfl (by decide) hl.1 rfl (Nat.le_of_ble_eq_true rfl) dX1_write_74 ⟨Nat.zero_le _, Nat.zero_le _⟩ (fun H locs hP hD hS => ?_)
    have hP : va_P (dC, dI) vwCl (wX1 cA g0 r1 r2 r3 r4 r5 ce w we wr nm n T (nI 0) off told wia) H := hP
    have hD : va_D A (wX1 cA g0 r1 r2 r3 r4 r5 ce w we wr nm n T (nI 0) off told wia) := hD
    refine lv_bipush (v := (nI 60)) hx hb dX1_write_77 (by decide) ?_
    refine kv_ne (tgt := 86) hx hb (by omega) (by omega) dX1_write_79 (by decide) (fun h79_1 => ?_) (fun h79_1 => absurd h79_1 (by omega))
    refine lv_iconst (v := (nI 0)) hx hb dX1_write_86 (by decide) ?_
    refine kv_Vi (Xr := []) (n := 1) (c_X1_refuses_0 l dC dI cA g0 r1 r2 r3 r4 r5 ce w we wr nm n T (nI 0) off told wia  ) hx hb hml hown hts gX1_write_X1_refuses rfl ⟨rfl, rfl⟩ (by decide +kernel) rfl ⟨Nat.le_of_ble_eq_true rfl, Nat.le_of_ble_eq_true rfl⟩ hK hP hD hS hA [0] [0, 1, 2, 3, 4, 5] [] rfl rfl rfl (by decide) (by decide) (q0 := 0) rfl rfl rfl (by decide) hl.1 rfl (Nat.le_of_ble_eq_true rfl) dX1_write_87 ⟨Nat.zero_le _, Nat.zero_le _⟩ (fun H locs hP hD hS => ?_)
    have hP : va_P (dC, dI) vwCl (wX1 cA g0 r1 r2 r3 r4 r5 ce w we wr nm n T (nI 0) off told wia) H := hP
    have hD : va_D A (wX1 cA g0 r1 r2 r3 r4 r5 ce w we wr nm n T (nI 0) off told wia) := hD
    refine kv_if_eq (tgt := 95) hx hb (by omega) dX1_write_90 (by decide) (fun _ => ?_) (fun h9 => absurd h9 (by omega))
    refine lv_aload_n hx hb dX1_write_95 rfl (lv_at hl 2 rfl) ?_
    refine va_get (D := (dC, dI)) (ci := 1) (v := .ref r1) (C := RX1) (T := TX1) (N := 11) hx hb hts hin hown hK hP 0 rfl rfl 1 (by decide) (hts (.fieldLink RX1 7 "NestCellsModel" "cells" "[I") (by decide +kernel)) (fun _ h9 => h9) rfl dX1_write_96 ?_
    refine lv_iload_n hx hb dX1_write_99 rfl (lv_at hl 3 rfl) ?_
    refine kv_iald hx hb hK hP 1 0 rfl rfl (by omega) (by omega) dX1_write_100 ?_
    refine lv_istore (lv' := [(5, .int (ce cell)), (4, .int (nI 0)), (3, .int (nI (n - 1))), (0, .ref g0), (1, .int (nI cell)), (2, .int v)]) hx hb dX1_write_101 hl (by decide) rfl (fun ls hl => ?_)
    refine lv_aload_n hx hb dX1_write_103 rfl (lv_at hl 3 rfl) ?_
    refine va_get (D := (dC, dI)) (ci := 1) (v := .ref r4) (C := RX1) (T := TX1) (N := 11) hx hb hts hin hown hK hP 0 rfl rfl 4 (by decide) (hts (.fieldLink RX1 19 "NestCellsModel" "written" "[I") (by decide +kernel)) (fun _ h9 => h9) rfl dX1_write_104 ?_
    refine lv_iload_n hx hb dX1_write_107 rfl (lv_at hl 2 rfl) ?_
    refine lv_dup2_11 hx hb dX1_write_108 rfl rfl ?_
    refine kv_iald hx hb hK hP 4 0 rfl rfl (by omega) (by omega) dX1_write_109 ?_
    refine lv_iconst (v := (nI 1)) hx hb dX1_write_110 (by decide) ?_
    refine lv_iload_n hx hb dX1_write_111 rfl (lv_at hl 4 rfl) ?_
    refine lv_ishl hx hb dX1_write_112 ?_
    refine lv_ior hx hb dX1_write_113 ?_
    refine kv_iast hx hb hK hP hD hS 4 0 rfl rfl (by omega) (by omega) dX1_write_114 (fun H locs hP hD hS => ?_)
    have hP : va_P (dC, dI) vwCl (wX1 cA g0 r1 r2 r3 r4 r5 ce w we (upd wr (n - 1) ((wr (n - 1)) ||| ((nI 1) <<< ((nI cell) &&& 31)))) nm n T (nI 0) off told wia) H := hP
    have hD : va_D A (wX1 cA g0 r1 r2 r3 r4 r5 ce w we (upd wr (n - 1) ((wr (n - 1)) ||| ((nI 1) <<< ((nI cell) &&& 31)))) nm n T (nI 0) off told wia) := hD
    refine lv_aload_n hx hb dX1_write_115 rfl (lv_at hl 3 rfl) ?_
    refine va_get (D := (dC, dI)) (ci := 1) (v := .ref r1) (C := RX1) (T := TX1) (N := 11) hx hb hts hin hown hK hP 0 rfl rfl 1 (by decide) (hts (.fieldLink RX1 7 "NestCellsModel" "cells" "[I") (by decide +kernel)) (fun _ h9 => h9) rfl dX1_write_116 ?_
    refine lv_iload_n hx hb dX1_write_119 rfl (lv_at hl 4 rfl) ?_
    refine lv_iload_n hx hb dX1_write_120 rfl (lv_at hl 5 rfl) ?_
    refine kv_iast hx hb hK hP hD hS 1 0 rfl rfl (by omega) (by omega) dX1_write_121 (fun H locs hP hD hS => ?_)
    have hP : va_P (dC, dI) vwCl (wX1 cA g0 r1 r2 r3 r4 r5 (upd ce cell v) w we (upd wr (n - 1) ((wr (n - 1)) ||| ((nI 1) <<< ((nI cell) &&& 31)))) nm n T (nI 0) off told wia) H := hP
    have hD : va_D A (wX1 cA g0 r1 r2 r3 r4 r5 (upd ce cell v) w we (upd wr (n - 1) ((wr (n - 1)) ||| ((nI 1) <<< ((nI cell) &&& 31)))) nm n T (nI 0) off told wia) := hD
    refine lv_iload hx hb dX1_write_122 (lv_at hl 0 rfl) ?_
    exact kMi_ret hx hb hr hlocks hP hK hD hS dX1_write_124 rfl rfl
  · skip
    refine lv_iconst (v := (nI 1)) hx hb dX1_write_60 (by decide) ?_
    refine lv_goto (tgt := 65) hx hb dX1_write_61 (by decide) ?_
    refine lv_istore (lv' := [(4, .int (nI 1)), (3, .int (nI (n - 1))), (0, .ref g0), (1, .int (nI cell)), (2, .int v)]) hx hb dX1_write_65 hl (by decide) rfl (fun ls hl => ?_)
    refine lv_aload_n hx hb dX1_write_67 rfl (lv_at hl 2 rfl) ?_
    refine lv_iload hx hb dX1_write_68 (lv_at hl 0 rfl) ?_
    refine kv_if_ne (tgt := 86) hx hb (by omega) dX1_write_70 (by decide) (fun _ => ?_) (fun h9 => absurd h9 (by omega))
    refine lv_iconst (v := (nI 0)) hx hb dX1_write_86 (by decide) ?_
    refine kv_Vi (Xr := []) (n := 1) (c_X1_refuses_0 l dC dI cA g0 r1 r2 r3 r4 r5 ce w we wr nm n T (nI 0) off told wia  ) hx hb hml hown hts gX1_write_X1_refuses rfl ⟨rfl, rfl⟩ (by decide +kernel) rfl ⟨Nat.le_of_ble_eq_true rfl, Nat.le_of_ble_eq_true rfl⟩ hK hP hD hS hA [0] [0, 1, 2, 3, 4, 5] [] rfl rfl rfl (by decide) (by decide) (q0 := 0) rfl rfl rfl (by decide) hl.1 rfl (Nat.le_of_ble_eq_true rfl) dX1_write_87 ⟨Nat.zero_le _, Nat.zero_le _⟩ (fun H locs hP hD hS => ?_)
    have hP : va_P (dC, dI) vwCl (wX1 cA g0 r1 r2 r3 r4 r5 ce w we wr nm n T (nI 0) off told wia) H := hP
    have hD : va_D A (wX1 cA g0 r1 r2 r3 r4 r5 ce w we wr nm n T (nI 0) off told wia) := hD
    refine kv_if_eq (tgt := 95) hx hb (by omega) dX1_write_90 (by decide) (fun _ => ?_) (fun h9 => absurd h9 (by omega))
    refine lv_aload_n hx hb dX1_write_95 rfl (lv_at hl 2 rfl) ?_
    refine va_get (D := (dC, dI)) (ci := 1) (v := .ref r1) (C := RX1) (T := TX1) (N := 11) hx hb hts hin hown hK hP 0 rfl rfl 1 (by decide) (hts (.fieldLink RX1 7 "NestCellsModel" "cells" "[I") (by decide +kernel)) (fun _ h9 => h9) rfl dX1_write_96 ?_
    refine lv_iload_n hx hb dX1_write_99 rfl (lv_at hl 3 rfl) ?_
    refine kv_iald hx hb hK hP 1 0 rfl rfl (by omega) (by omega) dX1_write_100 ?_
    refine lv_istore (lv' := [(5, .int (ce cell)), (4, .int (nI 1)), (3, .int (nI (n - 1))), (0, .ref g0), (1, .int (nI cell)), (2, .int v)]) hx hb dX1_write_101 hl (by decide) rfl (fun ls hl => ?_)
    refine lv_aload_n hx hb dX1_write_103 rfl (lv_at hl 3 rfl) ?_
    refine va_get (D := (dC, dI)) (ci := 1) (v := .ref r4) (C := RX1) (T := TX1) (N := 11) hx hb hts hin hown hK hP 0 rfl rfl 4 (by decide) (hts (.fieldLink RX1 19 "NestCellsModel" "written" "[I") (by decide +kernel)) (fun _ h9 => h9) rfl dX1_write_104 ?_
    refine lv_iload_n hx hb dX1_write_107 rfl (lv_at hl 2 rfl) ?_
    refine lv_dup2_11 hx hb dX1_write_108 rfl rfl ?_
    refine kv_iald hx hb hK hP 4 0 rfl rfl (by omega) (by omega) dX1_write_109 ?_
    refine lv_iconst (v := (nI 1)) hx hb dX1_write_110 (by decide) ?_
    refine lv_iload_n hx hb dX1_write_111 rfl (lv_at hl 4 rfl) ?_
    refine lv_ishl hx hb dX1_write_112 ?_
    refine lv_ior hx hb dX1_write_113 ?_
    refine kv_iast hx hb hK hP hD hS 4 0 rfl rfl (by omega) (by omega) dX1_write_114 (fun H locs hP hD hS => ?_)
    have hP : va_P (dC, dI) vwCl (wX1 cA g0 r1 r2 r3 r4 r5 ce w we (upd wr (n - 1) ((wr (n - 1)) ||| ((nI 1) <<< ((nI cell) &&& 31)))) nm n T (nI 0) off told wia) H := hP
    have hD : va_D A (wX1 cA g0 r1 r2 r3 r4 r5 ce w we (upd wr (n - 1) ((wr (n - 1)) ||| ((nI 1) <<< ((nI cell) &&& 31)))) nm n T (nI 0) off told wia) := hD
    refine lv_aload_n hx hb dX1_write_115 rfl (lv_at hl 3 rfl) ?_
    refine va_get (D := (dC, dI)) (ci := 1) (v := .ref r1) (C := RX1) (T := TX1) (N := 11) hx hb hts hin hown hK hP 0 rfl rfl 1 (by decide) (hts (.fieldLink RX1 7 "NestCellsModel" "cells" "[I") (by decide +kernel)) (fun _ h9 => h9) rfl dX1_write_116 ?_
    refine lv_iload_n hx hb dX1_write_119 rfl (lv_at hl 4 rfl) ?_
    refine lv_iload_n hx hb dX1_write_120 rfl (lv_at hl 5 rfl) ?_
    refine kv_iast hx hb hK hP hD hS 1 0 rfl rfl (by omega) (by omega) dX1_write_121 (fun H locs hP hD hS => ?_)
    have hP : va_P (dC, dI) vwCl (wX1 cA g0 r1 r2 r3 r4 r5 (upd ce cell v) w we (upd wr (n - 1) ((wr (n - 1)) ||| ((nI 1) <<< ((nI cell) &&& 31)))) nm n T (nI 0) off told wia) H := hP
    have hD : va_D A (wX1 cA g0 r1 r2 r3 r4 r5 (upd ce cell v) w we (upd wr (n - 1) ((wr (n - 1)) ||| ((nI 1) <<< ((nI cell) &&& 31)))) nm n T (nI 0) off told wia) := hD
    refine lv_iload hx hb dX1_write_122 (lv_at hl 0 rfl) ?_
    exact kMi_ret hx hb hr hlocks hP hK hD hS dX1_write_124 rfl rfl
set_option maxHeartbeats 4000000 in
set_option maxRecDepth 100000 in
/-- NestCellsModel.read_a  -/
theorem c_X1_read_a (l : Launch) (dC : Nat → ClassId) (dI : Nat → Nat → Nat) (cA : ClassId) (g0 r1 r2 r3 r4 r5 : Nat) (ce w we wr nm : Nat → Int32) (n T : Nat) (cd off told wia : Int32) (cell : Int32) (hc : kx_isCell cell = 0) : kMi l yX1_read wsX1_read ({ frames := 2, cells := 0, slots := 0, locals := 44 }) dC dI [(cA, .int)] (wX1 cA g0 r1 r2 r3 r4 r5 ce w we wr nm n T cd off told wia) [.ref g0, .int cell] (nI 0) (wX1 cA g0 r1 r2 r3 r4 r5 ce w we wr nm n T (nI 1) off told wia) := by
  refine kMi_of (cc := cX1_read) (maxL := 2) (ret := (some .int)) (by decide) rfl (Nat.le_of_ble_eq_true rfl) ?_
  intro p e s m below meth c A ls hx hb hml hr hts hown hlocks hA hP hK hD hS hl
  have hin : ∀ w ∈ u_ws RX1 TX1 11, w ∈ wsX1_read := by decide +kernel
  have hl : lv_has ls 2 [(0, .ref g0), (1, .int cell)] := hl
  refine lv_aload_n hx hb dX1_read_0 rfl (lv_at hl 0 rfl) ?_
  refine lv_iload_n hx hb dX1_read_1 rfl (lv_at hl 1 rfl) ?_
  refine kv_Si (Xr := wX1 cA g0 r1 r2 r3 r4 r5 ce w we wr nm n T cd off told wia) (n := 1) (c_X1_isCell l dC dI   cell ) hx hb hml hown hts gX1_read_X1_isCell rfl ⟨rfl, rfl⟩ (by decide +kernel) rfl ⟨Nat.le_of_ble_eq_true rfl, Nat.le_of_ble_eq_true rfl⟩ hK hP hD hS hA [] [] [0, 1, 2, 3, 4, 5] rfl rfl rfl (by decide) (by decide) rfl (by decide) hl.1 rfl (Nat.le_of_ble_eq_true rfl) dX1_read_2 ⟨Nat.zero_le _, Nat.zero_le _⟩ (fun H locs hP hD hS => ?_)
  have hP : va_P (dC, dI) vwCl (wX1 cA g0 r1 r2 r3 r4 r5 ce w we wr nm n T cd off told wia) H := hP
  have hD : va_D A (wX1 cA g0 r1 r2 r3 r4 r5 ce w we wr nm n T cd off told wia) := hD
  refine lv_if_ne (tgt := 12) hx hb dX1_read_5 (by decide) (fun h5_0 => absurd h5_0 (fun q => q hc)) (fun h5_0 => ?_)
  refine lv_iconst (v := (nI 1)) hx hb dX1_read_8 (by decide) ?_
  refine lv_goto (tgt := 24) hx hb dX1_read_9 (by decide) ?_
  refine kv_Vi (Xr := []) (n := 1) (c_X1_refuses_1 l dC dI cA g0 r1 r2 r3 r4 r5 ce w we wr nm n T cd off told wia  ) hx hb hml hown hts gX1_read_X1_refuses rfl ⟨rfl, rfl⟩ (by decide +kernel) rfl ⟨Nat.le_of_ble_eq_true rfl, Nat.le_of_ble_eq_true rfl⟩ hK hP hD hS hA [0] [0, 1, 2, 3, 4, 5] [] rfl rfl rfl (by decide) (by decide) (q0 := 0) rfl rfl rfl (by decide) hl.1 rfl (Nat.le_of_ble_eq_true rfl) dX1_read_24 ⟨Nat.zero_le _, Nat.zero_le _⟩ (fun H locs hP hD hS => ?_)
  have hP : va_P (dC, dI) vwCl (wX1 cA g0 r1 r2 r3 r4 r5 ce w we wr nm n T (nI 1) off told wia) H := hP
  have hD : va_D A (wX1 cA g0 r1 r2 r3 r4 r5 ce w we wr nm n T (nI 1) off told wia) := hD
  refine kv_if_eq (tgt := 34) hx hb (by omega) dX1_read_27 (by decide) (fun h9 => absurd h9 (by omega)) (fun _ => ?_)
  refine lv_iconst (v := (nI 0)) hx hb dX1_read_30 (by decide) ?_
  refine lv_goto (tgt := 40) hx hb dX1_read_31 (by decide) ?_
  exact kMi_ret hx hb hr hlocks hP hK hD hS dX1_read_40 rfl rfl
set_option maxHeartbeats 4000000 in
set_option maxRecDepth 100000 in
/-- NestCellsModel.read_b  -/
theorem c_X1_read_b (l : Launch) (dC : Nat → ClassId) (dI : Nat → Nat → Nat) (cA : ClassId) (g0 r1 r2 r3 r4 r5 : Nat) (ce w we wr nm : Nat → Int32) (n T : Nat) (cd off told wia : Int32) (cell : Nat) (hc : cell < 32) (hox : ¬ off = 0) : kMi l yX1_read wsX1_read ({ frames := 2, cells := 0, slots := 0, locals := 44 }) dC dI [(cA, .int)] (wX1 cA g0 r1 r2 r3 r4 r5 ce w we wr nm n T cd off told wia) [.ref g0, .int (nI cell)] (nI 0) (wX1 cA g0 r1 r2 r3 r4 r5 ce w we wr nm n T (nI 2) off told wia) := by
  refine kMi_of (cc := cX1_read) (maxL := 2) (ret := (some .int)) (by decide) rfl (Nat.le_of_ble_eq_true rfl) ?_
  intro p e s m below meth c A ls hx hb hml hr hts hown hlocks hA hP hK hD hS hl
  have hin : ∀ w ∈ u_ws RX1 TX1 11, w ∈ wsX1_read := by decide +kernel
  have hl : lv_has ls 2 [(0, .ref g0), (1, .int (nI cell))] := hl
  refine lv_aload_n hx hb dX1_read_0 rfl (lv_at hl 0 rfl) ?_
  refine lv_iload_n hx hb dX1_read_1 rfl (lv_at hl 1 rfl) ?_
  refine kv_Si (Xr := wX1 cA g0 r1 r2 r3 r4 r5 ce w we wr nm n T cd off told wia) (n := 1) (c_X1_isCell l dC dI   (nI cell) ) hx hb hml hown hts gX1_read_X1_isCell rfl ⟨rfl, rfl⟩ (by decide +kernel) rfl ⟨Nat.le_of_ble_eq_true rfl, Nat.le_of_ble_eq_true rfl⟩ hK hP hD hS hA [] [] [0, 1, 2, 3, 4, 5] rfl rfl rfl (by decide) (by decide) rfl (by decide) hl.1 rfl (Nat.le_of_ble_eq_true rfl) dX1_read_2 ⟨Nat.zero_le _, Nat.zero_le _⟩ (fun H locs hP hD hS => ?_)
  have hP : va_P (dC, dI) vwCl (wX1 cA g0 r1 r2 r3 r4 r5 ce w we wr nm n T cd off told wia) H := hP
  have hD : va_D A (wX1 cA g0 r1 r2 r3 r4 r5 ce w we wr nm n T cd off told wia) := hD
  refine lv_if_ne (tgt := 12) hx hb dX1_read_5 (by decide) (fun h5_0 => ?_) (fun h5_0 => absurd h5_0 (by rw [kx_isCell_n hc]; exact kv_n10))
  refine lv_aload_n hx hb dX1_read_12 rfl (lv_at hl 0 rfl) ?_
  refine va_get (D := (dC, dI)) (ci := 1) (v := .int off) (C := RX1) (T := TX1) (N := 11) hx hb hts hin hown hK hP 0 rfl rfl 8 (by decide) (hts (.fieldLink RX1 39 "NestCellsModel" "off" "Z") (by decide +kernel)) (fun _ h9 => h9) rfl dX1_read_13 ?_
  refine lv_if_eq (tgt := 23) hx hb dX1_read_16 (by decide) (fun h16_0 => absurd h16_0 hox) (fun h16_0 => ?_)
  refine lv_iconst (v := (nI 2)) hx hb dX1_read_19 (by decide) ?_
  refine lv_goto (tgt := 24) hx hb dX1_read_20 (by decide) ?_
  refine kv_Vi (Xr := []) (n := 1) (c_X1_refuses_2 l dC dI cA g0 r1 r2 r3 r4 r5 ce w we wr nm n T cd off told wia  ) hx hb hml hown hts gX1_read_X1_refuses rfl ⟨rfl, rfl⟩ (by decide +kernel) rfl ⟨Nat.le_of_ble_eq_true rfl, Nat.le_of_ble_eq_true rfl⟩ hK hP hD hS hA [0] [0, 1, 2, 3, 4, 5] [] rfl rfl rfl (by decide) (by decide) (q0 := 0) rfl rfl rfl (by decide) hl.1 rfl (Nat.le_of_ble_eq_true rfl) dX1_read_24 ⟨Nat.zero_le _, Nat.zero_le _⟩ (fun H locs hP hD hS => ?_)
  have hP : va_P (dC, dI) vwCl (wX1 cA g0 r1 r2 r3 r4 r5 ce w we wr nm n T (nI 2) off told wia) H := hP
  have hD : va_D A (wX1 cA g0 r1 r2 r3 r4 r5 ce w we wr nm n T (nI 2) off told wia) := hD
  refine kv_if_eq (tgt := 34) hx hb (by omega) dX1_read_27 (by decide) (fun h9 => absurd h9 (by omega)) (fun _ => ?_)
  refine lv_iconst (v := (nI 0)) hx hb dX1_read_30 (by decide) ?_
  refine lv_goto (tgt := 40) hx hb dX1_read_31 (by decide) ?_
  exact kMi_ret hx hb hr hlocks hP hK hD hS dX1_read_40 rfl rfl
set_option maxHeartbeats 4000000 in
set_option maxRecDepth 100000 in
/-- NestCellsModel.read  -/
theorem c_X1_read (l : Launch) (dC : Nat → ClassId) (dI : Nat → Nat → Nat) (cA : ClassId) (g0 r1 r2 r3 r4 r5 : Nat) (ce w we wr nm : Nat → Int32) (n T : Nat) (cd off told wia : Int32) (cell : Nat) (hc : cell < 32) (ho : off = 0) : kMi l yX1_read wsX1_read ({ frames := 2, cells := 0, slots := 0, locals := 44 }) dC dI [(cA, .int)] (wX1 cA g0 r1 r2 r3 r4 r5 ce w we wr nm n T cd off told wia) [.ref g0, .int (nI cell)] (ce cell) (wX1 cA g0 r1 r2 r3 r4 r5 ce w we wr nm n T (nI 0) off told wia) := by
  refine kMi_of (cc := cX1_read) (maxL := 2) (ret := (some .int)) (by decide) rfl (Nat.le_of_ble_eq_true rfl) ?_
  intro p e s m below meth c A ls hx hb hml hr hts hown hlocks hA hP hK hD hS hl
  have hin : ∀ w ∈ u_ws RX1 TX1 11, w ∈ wsX1_read := by decide +kernel
  have hl : lv_has ls 2 [(0, .ref g0), (1, .int (nI cell))] := hl
  refine lv_aload_n hx hb dX1_read_0 rfl (lv_at hl 0 rfl) ?_
  refine lv_iload_n hx hb dX1_read_1 rfl (lv_at hl 1 rfl) ?_
  refine kv_Si (Xr := wX1 cA g0 r1 r2 r3 r4 r5 ce w we wr nm n T cd off told wia) (n := 1) (c_X1_isCell l dC dI   (nI cell) ) hx hb hml hown hts gX1_read_X1_isCell rfl ⟨rfl, rfl⟩ (by decide +kernel) rfl ⟨Nat.le_of_ble_eq_true rfl, Nat.le_of_ble_eq_true rfl⟩ hK hP hD hS hA [] [] [0, 1, 2, 3, 4, 5] rfl rfl rfl (by decide) (by decide) rfl (by decide) hl.1 rfl (Nat.le_of_ble_eq_true rfl) dX1_read_2 ⟨Nat.zero_le _, Nat.zero_le _⟩ (fun H locs hP hD hS => ?_)
  have hP : va_P (dC, dI) vwCl (wX1 cA g0 r1 r2 r3 r4 r5 ce w we wr nm n T cd off told wia) H := hP
  have hD : va_D A (wX1 cA g0 r1 r2 r3 r4 r5 ce w we wr nm n T cd off told wia) := hD
  refine lv_if_ne (tgt := 12) hx hb dX1_read_5 (by decide) (fun h5_0 => ?_) (fun h5_0 => absurd h5_0 (by rw [kx_isCell_n hc]; exact kv_n10))
  refine lv_aload_n hx hb dX1_read_12 rfl (lv_at hl 0 rfl) ?_
  refine va_get (D := (dC, dI)) (ci := 1) (v := .int off) (C := RX1) (T := TX1) (N := 11) hx hb hts hin hown hK hP 0 rfl rfl 8 (by decide) (hts (.fieldLink RX1 39 "NestCellsModel" "off" "Z") (by decide +kernel)) (fun _ h9 => h9) rfl dX1_read_13 ?_
  refine lv_if_eq (tgt := 23) hx hb dX1_read_16 (by decide) (fun h16_0 => ?_) (fun h16_0 => absurd h16_0 (fun q => q ho))
  refine lv_iconst (v := (nI 0)) hx hb dX1_read_23 (by decide) ?_
  refine kv_Vi (Xr := []) (n := 1) (c_X1_refuses_0 l dC dI cA g0 r1 r2 r3 r4 r5 ce w we wr nm n T cd off told wia  ) hx hb hml hown hts gX1_read_X1_refuses rfl ⟨rfl, rfl⟩ (by decide +kernel) rfl ⟨Nat.le_of_ble_eq_true rfl, Nat.le_of_ble_eq_true rfl⟩ hK hP hD hS hA [0] [0, 1, 2, 3, 4, 5] [] rfl rfl rfl (by decide) (by decide) (q0 := 0) rfl rfl rfl (by decide) hl.1 rfl (Nat.le_of_ble_eq_true rfl) dX1_read_24 ⟨Nat.zero_le _, Nat.zero_le _⟩ (fun H locs hP hD hS => ?_)
  have hP : va_P (dC, dI) vwCl (wX1 cA g0 r1 r2 r3 r4 r5 ce w we wr nm n T (nI 0) off told wia) H := hP
  have hD : va_D A (wX1 cA g0 r1 r2 r3 r4 r5 ce w we wr nm n T (nI 0) off told wia) := hD
  refine kv_if_eq (tgt := 34) hx hb (by omega) dX1_read_27 (by decide) (fun _ => ?_) (fun h9 => absurd h9 (by omega))
  refine lv_aload_n hx hb dX1_read_34 rfl (lv_at hl 0 rfl) ?_
  refine va_get (D := (dC, dI)) (ci := 1) (v := .ref r1) (C := RX1) (T := TX1) (N := 11) hx hb hts hin hown hK hP 0 rfl rfl 1 (by decide) (hts (.fieldLink RX1 7 "NestCellsModel" "cells" "[I") (by decide +kernel)) (fun _ h9 => h9) rfl dX1_read_35 ?_
  refine lv_iload_n hx hb dX1_read_38 rfl (lv_at hl 1 rfl) ?_
  refine kv_iald hx hb hK hP 1 0 rfl rfl (by omega) (by omega) dX1_read_39 ?_
  exact kMi_ret hx hb hr hlocks hP hK hD hS dX1_read_40 rfl rfl
