set_option maxHeartbeats 4000000 in
set_option maxRecDepth 100000 in
/-- NestCells.recover_a  -/
theorem c_X0_recover_a (l : Launch) (dC : Nat → ClassId) (dI : Nat → Nat → Nat) (cA : ClassId) (h0 q0 q1 q2 q3 q4 q5 : Nat) (w ce nm tl tc tw : Nat → Int32) (T n z : Nat) (wtc wia off : Int32) (mk : Nat)  (hmk : w 32 = nI mk) (h1k : 1 ≤ mk) (h2k : mk ≤ 32) : kMi l yX0_recover wsX0_recover ({ frames := 2, cells := 0, slots := 0, locals := 60 }) dC dI [(cA, .int)] (wX0 cA h0 q0 q1 q2 q3 q4 q5 w ce nm tl tc tw T n z wtc wia off) [.ref h0] (nI ((kx_hf (w, nI 0, wia, nI 0) mk).2)) (wX0 cA h0 q0 q1 q2 q3 q4 q5 (((kx_pw (kx_hf (w, nI 0, wia, nI 0) mk).1 32 (nI 0))).1) (va_cpy ((kx_pw (kx_hf (w, nI 0, wia, nI 0) mk).1 32 (nI 0))).1 ce 0 0 32) nm tl tc tw 0 0 0 (((kx_pw (kx_hf (w, nI 0, wia, nI 0) mk).1 32 (nI 0))).2.1) (((kx_pw (kx_hf (w, nI 0, wia, nI 0) mk).1 32 (nI 0))).2.2.1) (((kx_pw (kx_hf (w, nI 0, wia, nI 0) mk).1 32 (nI 0))).2.2.2)) := by
  refine kMi_of (cc := cX0_recover) (maxL := 2) (ret := (some .int)) (by decide) rfl (Nat.le_of_ble_eq_true rfl) ?_
  intro p e s m below meth c A ls hx hb hml hr hts hown hlocks hA hP hK hD hS hl
  have hin : ∀ w ∈ u_ws RX0 TX0 12, w ∈ wsX0_recover := by decide +kernel
  have hl : lv_has ls 2 [(0, .ref h0)] := hl
  refine lv_aload_n hx hb dX0_recover_0 rfl (lv_at hl 0 rfl) ?_
  refine kv_Vv (Xr := []) (n := 0) (c_X0_forgetTransactions l dC dI cA h0 q0 q1 q2 q3 q4 q5 w ce nm tl tc tw T n z wtc wia off  ) hx hb hml hown hts gX0_recover_X0_forgetTransactions rfl ⟨rfl, rfl⟩ (by decide +kernel) rfl ⟨Nat.le_of_ble_eq_true rfl, Nat.le_of_ble_eq_true rfl⟩ hK hP hD hS hA [0] [0, 1, 2, 3, 4, 5, 6] [] rfl rfl rfl (by decide) (by decide) (q0 := 0) rfl rfl rfl (by decide) hl.1 rfl (Nat.le_of_ble_eq_true rfl) dX0_recover_1 ⟨Nat.zero_le _, Nat.zero_le _⟩ (fun H locs hP hD hS => ?_)
  have hP : va_P (dC, dI) vwCl (wX0 cA h0 q0 q1 q2 q3 q4 q5 w ce nm tl tc tw 0 0 0 wtc wia off) H := hP
  have hD : va_D A (wX0 cA h0 q0 q1 q2 q3 q4 q5 w ce nm tl tc tw 0 0 0 wtc wia off) := hD
  refine lv_aload_n hx hb dX0_recover_4 rfl (lv_at hl 0 rfl) ?_
  refine lv_iconst (v := (nI 0)) hx hb dX0_recover_5 (by decide) ?_
  refine va_put (D := (dC, dI)) (ci := 0) (v := .int (nI 0)) (ty := .int) (C := RX0) (T := TX0) (N := 12) hx hb hts hin tyX0 tyX0_ok nmX0 hown hK hP hD hS 0 rfl rfl 9 (by decide) (hts (.fieldLink RX0 37 "NestCells" "writesTillCrash" "I") (by decide +kernel)) (fun _ h9 => h9) rfl (by decide +kernel) rfl rfl (Nat.le_of_ble_eq_true rfl) dX0_recover_6 (fun H locs hP hD hS => ?_)
  have hP : va_P (dC, dI) vwCl (wX0 cA h0 q0 q1 q2 q3 q4 q5 w ce nm tl tc tw 0 0 0 (nI 0) wia off) H := hP
  have hD : va_D A (wX0 cA h0 q0 q1 q2 q3 q4 q5 w ce nm tl tc tw 0 0 0 (nI 0) wia off) := hD
  refine lv_aload_n hx hb dX0_recover_9 rfl (lv_at hl 0 rfl) ?_
  refine lv_iconst (v := (nI 0)) hx hb dX0_recover_10 (by decide) ?_
  refine va_put (D := (dC, dI)) (ci := 0) (v := .int (nI 0)) (ty := .boolean) (C := RX0) (T := TX0) (N := 12) hx hb hts hin tyX0 tyX0_ok nmX0 hown hK hP hD hS 0 rfl rfl 11 (by decide) (hts (.fieldLink RX0 44 "NestCells" "off" "Z") (by decide +kernel)) (fun _ h9 => h9) rfl (by decide +kernel) rfl rfl (Nat.le_of_ble_eq_true rfl) dX0_recover_11 (fun H locs hP hD hS => ?_)
  have hP : va_P (dC, dI) vwCl (wX0 cA h0 q0 q1 q2 q3 q4 q5 w ce nm tl tc tw 0 0 0 (nI 0) wia (nI 0)) H := hP
  have hD : va_D A (wX0 cA h0 q0 q1 q2 q3 q4 q5 w ce nm tl tc tw 0 0 0 (nI 0) wia (nI 0)) := hD
  refine lv_iconst (v := (nI 0)) hx hb dX0_recover_14 (by decide) ?_
  refine lv_istore_n (lv' := [(1, .int (nI 0)), (0, .ref h0)]) hx hb dX0_recover_15 rfl hl (by decide) rfl (fun ls hl => ?_)
  refine lv_aload_n hx hb dX0_recover_16 rfl (lv_at hl 1 rfl) ?_
  refine va_get (D := (dC, dI)) (ci := 0) (v := .ref q0) (C := RX0) (T := TX0) (N := 12) hx hb hts hin hown hK hP 0 rfl rfl 0 (by decide) (hts (.fieldLink RX0 9 "NestCells" "words" "[I") (by decide +kernel)) (fun _ h9 => h9) rfl dX0_recover_17 ?_
  refine lv_bipush (v := (nI 32)) hx hb dX0_recover_20 (by decide) ?_
  refine kv_iald hx hb hK hP 1 0 rfl rfl (by omega) (by omega) dX0_recover_22 ?_
  refine kv_top (w := .int (nI mk)) (by rw [hmk]) ?_
  refine lv_iconst (v := (nI 1)) hx hb dX0_recover_23 (by decide) ?_
  refine kv_lt (tgt := 51) hx hb (by omega) (by omega) dX0_recover_24 (by decide) (fun h24_0 => absurd h24_0 (by omega)) (fun h24_0 => ?_)
  refine lv_aload_n hx hb dX0_recover_27 rfl (lv_at hl 1 rfl) ?_
  refine va_get (D := (dC, dI)) (ci := 0) (v := .ref q0) (C := RX0) (T := TX0) (N := 12) hx hb hts hin hown hK hP 0 rfl rfl 0 (by decide) (hts (.fieldLink RX0 9 "NestCells" "words" "[I") (by decide +kernel)) (fun _ h9 => h9) rfl dX0_recover_28 ?_
  refine lv_bipush (v := (nI 32)) hx hb dX0_recover_31 (by decide) ?_
  refine kv_iald hx hb hK hP 1 0 rfl rfl (by omega) (by omega) dX0_recover_33 ?_
  refine kv_top (w := .int (nI mk)) (by rw [hmk]) ?_
  refine lv_bipush (v := (nI 32)) hx hb dX0_recover_34 (by decide) ?_
  refine kv_gt (tgt := 51) hx hb (by omega) (by omega) dX0_recover_36 (by decide) (fun h36_0 => absurd h36_0 (by omega)) (fun h36_0 => ?_)
  refine lv_aload_n hx hb dX0_recover_39 rfl (lv_at hl 1 rfl) ?_
  refine lv_aload_n hx hb dX0_recover_40 rfl (lv_at hl 1 rfl) ?_
  refine va_get (D := (dC, dI)) (ci := 0) (v := .ref q0) (C := RX0) (T := TX0) (N := 12) hx hb hts hin hown hK hP 0 rfl rfl 0 (by decide) (hts (.fieldLink RX0 9 "NestCells" "words" "[I") (by decide +kernel)) (fun _ h9 => h9) rfl dX0_recover_41 ?_
  refine lv_bipush (v := (nI 32)) hx hb dX0_recover_44 (by decide) ?_
  refine kv_iald hx hb hK hP 1 0 rfl rfl (by omega) (by omega) dX0_recover_46 ?_
  refine kv_top (w := .int (nI mk)) (by rw [hmk]) ?_
  refine kv_Vi (Xr := []) (n := 1) (c_X0_writeHomesFromEntries l dC dI cA h0 q0 q1 q2 q3 q4 q5 w ce nm tl tc tw 0 0 0 (nI 0) wia (nI 0) mk (by omega)) hx hb hml hown hts gX0_recover_X0_writeHomesFromEntries rfl ⟨rfl, rfl⟩ (by decide +kernel) rfl ⟨Nat.le_of_ble_eq_true rfl, Nat.le_of_ble_eq_true rfl⟩ hK hP hD hS hA [0] [0, 1, 2, 3, 4, 5, 6] [] rfl rfl rfl (by decide) (by decide) (q0 := 0) rfl rfl rfl (by decide) hl.1 rfl (Nat.le_of_ble_eq_true rfl) dX0_recover_47 ⟨Nat.zero_le _, Nat.zero_le _⟩ (fun H locs hP hD hS => ?_)
  have hP : va_P (dC, dI) vwCl (wX0 cA h0 q0 q1 q2 q3 q4 q5 (((kx_hf (w, (nI 0), wia, (nI 0)) mk).1).1) ce nm tl tc tw 0 0 0 (((kx_hf (w, (nI 0), wia, (nI 0)) mk).1).2.1) (((kx_hf (w, (nI 0), wia, (nI 0)) mk).1).2.2.1) (((kx_hf (w, (nI 0), wia, (nI 0)) mk).1).2.2.2)) H := hP
  have hD : va_D A (wX0 cA h0 q0 q1 q2 q3 q4 q5 (((kx_hf (w, (nI 0), wia, (nI 0)) mk).1).1) ce nm tl tc tw 0 0 0 (((kx_hf (w, (nI 0), wia, (nI 0)) mk).1).2.1) (((kx_hf (w, (nI 0), wia, (nI 0)) mk).1).2.2.1) (((kx_hf (w, (nI 0), wia, (nI 0)) mk).1).2.2.2)) := hD
  refine lv_istore_n (lv' := [(1, .int (nI ((kx_hf (w, (nI 0), wia, (nI 0)) mk).2))), (0, .ref h0)]) hx hb dX0_recover_50 rfl hl (by decide) rfl (fun ls hl => ?_)
  have hP : va_P (dC, dI) vwCl (wX0 cA h0 q0 q1 q2 q3 q4 q5 (((kx_hf (w, nI 0, wia, nI 0) mk).1).1) ce nm tl tc tw 0 0 0 (((kx_hf (w, nI 0, wia, nI 0) mk).1).2.1) (((kx_hf (w, nI 0, wia, nI 0) mk).1).2.2.1) (((kx_hf (w, nI 0, wia, nI 0) mk).1).2.2.2)) H := by exact hP
  have hD : va_D A (wX0 cA h0 q0 q1 q2 q3 q4 q5 (((kx_hf (w, nI 0, wia, nI 0) mk).1).1) ce nm tl tc tw 0 0 0 (((kx_hf (w, nI 0, wia, nI 0) mk).1).2.1) (((kx_hf (w, nI 0, wia, nI 0) mk).1).2.2.1) (((kx_hf (w, nI 0, wia, nI 0) mk).1).2.2.2)) := by exact hD
  refine lv_aload_n hx hb dX0_recover_51 rfl (lv_at hl 1 rfl) ?_
  refine va_get (D := (dC, dI)) (ci := 0) (v := .ref q0) (C := RX0) (T := TX0) (N := 12) hx hb hts hin hown hK hP 0 rfl rfl 0 (by decide) (hts (.fieldLink RX0 9 "NestCells" "words" "[I") (by decide +kernel)) (fun _ h9 => h9) rfl dX0_recover_52 ?_
  refine lv_bipush (v := (nI 32)) hx hb dX0_recover_55 (by decide) ?_
  refine kv_iald hx hb hK hP 1 0 rfl rfl (by omega) (by omega) dX0_recover_57 ?_
  refine kv_top (w := .int (nI mk)) (congrArg Value.int ((kx_hf_o _ _ (by omega) _).trans hmk)) ?_
  refine kv_if_eq (tgt := 68) hx hb (by omega) dX0_recover_58 (by decide) (fun h58_0 => absurd h58_0 (by omega)) (fun h58_0 => ?_)
  refine lv_aload_n hx hb dX0_recover_61 rfl (lv_at hl 1 rfl) ?_
  refine lv_bipush (v := (nI 32)) hx hb dX0_recover_62 (by decide) ?_
  refine lv_iconst (v := (nI 0)) hx hb dX0_recover_64 (by decide) ?_
  refine kv_Vv (Xr := []) (n := 2) (c_X0_putWord l dC dI cA h0 q0 q1 q2 q3 q4 q5 (((kx_hf (w, nI 0, wia, nI 0) mk).1).1) ce nm tl tc tw 0 0 0 (((kx_hf (w, nI 0, wia, nI 0) mk).1).2.1) (((kx_hf (w, nI 0, wia, nI 0) mk).1).2.2.1) (((kx_hf (w, nI 0, wia, nI 0) mk).1).2.2.2) 32 (nI 0) (by omega)) hx hb hml hown hts gX0_recover_X0_putWord rfl ⟨rfl, rfl⟩ (by decide +kernel) rfl ⟨Nat.le_of_ble_eq_true rfl, Nat.le_of_ble_eq_true rfl⟩ hK hP hD hS hA [0] [0, 1, 2, 3, 4, 5, 6] [] rfl rfl rfl (by decide) (by decide) (q0 := 0) rfl rfl rfl (by decide) hl.1 rfl (Nat.le_of_ble_eq_true rfl) dX0_recover_65 ⟨Nat.zero_le _, Nat.zero_le _⟩ (fun H locs hP hD hS => ?_)
  have hP : va_P (dC, dI) vwCl (wX0 cA h0 q0 q1 q2 q3 q4 q5 ((kx_pw ((((kx_hf (w, nI 0, wia, nI 0) mk).1).1), (((kx_hf (w, nI 0, wia, nI 0) mk).1).2.1), (((kx_hf (w, nI 0, wia, nI 0) mk).1).2.2.1), (((kx_hf (w, nI 0, wia, nI 0) mk).1).2.2.2)) 32 (nI 0)).1) ce nm tl tc tw 0 0 0 ((kx_pw ((((kx_hf (w, nI 0, wia, nI 0) mk).1).1), (((kx_hf (w, nI 0, wia, nI 0) mk).1).2.1), (((kx_hf (w, nI 0, wia, nI 0) mk).1).2.2.1), (((kx_hf (w, nI 0, wia, nI 0) mk).1).2.2.2)) 32 (nI 0)).2.1) ((kx_pw ((((kx_hf (w, nI 0, wia, nI 0) mk).1).1), (((kx_hf (w, nI 0, wia, nI 0) mk).1).2.1), (((kx_hf (w, nI 0, wia, nI 0) mk).1).2.2.1), (((kx_hf (w, nI 0, wia, nI 0) mk).1).2.2.2)) 32 (nI 0)).2.2.1) ((kx_pw ((((kx_hf (w, nI 0, wia, nI 0) mk).1).1), (((kx_hf (w, nI 0, wia, nI 0) mk).1).2.1), (((kx_hf (w, nI 0, wia, nI 0) mk).1).2.2.1), (((kx_hf (w, nI 0, wia, nI 0) mk).1).2.2.2)) 32 (nI 0)).2.2.2)) H := hP
  have hD : va_D A (wX0 cA h0 q0 q1 q2 q3 q4 q5 ((kx_pw ((((kx_hf (w, nI 0, wia, nI 0) mk).1).1), (((kx_hf (w, nI 0, wia, nI 0) mk).1).2.1), (((kx_hf (w, nI 0, wia, nI 0) mk).1).2.2.1), (((kx_hf (w, nI 0, wia, nI 0) mk).1).2.2.2)) 32 (nI 0)).1) ce nm tl tc tw 0 0 0 ((kx_pw ((((kx_hf (w, nI 0, wia, nI 0) mk).1).1), (((kx_hf (w, nI 0, wia, nI 0) mk).1).2.1), (((kx_hf (w, nI 0, wia, nI 0) mk).1).2.2.1), (((kx_hf (w, nI 0, wia, nI 0) mk).1).2.2.2)) 32 (nI 0)).2.1) ((kx_pw ((((kx_hf (w, nI 0, wia, nI 0) mk).1).1), (((kx_hf (w, nI 0, wia, nI 0) mk).1).2.1), (((kx_hf (w, nI 0, wia, nI 0) mk).1).2.2.1), (((kx_hf (w, nI 0, wia, nI 0) mk).1).2.2.2)) 32 (nI 0)).2.2.1) ((kx_pw ((((kx_hf (w, nI 0, wia, nI 0) mk).1).1), (((kx_hf (w, nI 0, wia, nI 0) mk).1).2.1), (((kx_hf (w, nI 0, wia, nI 0) mk).1).2.2.1), (((kx_hf (w, nI 0, wia, nI 0) mk).1).2.2.2)) 32 (nI 0)).2.2.2)) := hD
  refine lv_aload_n hx hb dX0_recover_68 rfl (lv_at hl 1 rfl) ?_
  refine va_get (D := (dC, dI)) (ci := 0) (v := .ref q0) (C := RX0) (T := TX0) (N := 12) hx hb hts hin hown hK hP 0 rfl rfl 0 (by decide) (hts (.fieldLink RX0 9 "NestCells" "words" "[I") (by decide +kernel)) (fun _ h9 => h9) rfl dX0_recover_69 ?_
  refine lv_iconst (v := (nI 0)) hx hb dX0_recover_72 (by decide) ?_
  refine lv_aload_n hx hb dX0_recover_73 rfl (lv_at hl 1 rfl) ?_
  refine va_get (D := (dC, dI)) (ci := 0) (v := .ref q1) (C := RX0) (T := TX0) (N := 12) hx hb hts hin hown hK hP 0 rfl rfl 1 (by decide) (hts (.fieldLink RX0 13 "NestCells" "cells" "[I") (by decide +kernel)) (fun _ h9 => h9) rfl dX0_recover_74 ?_
  refine lv_iconst (v := (nI 0)) hx hb dX0_recover_77 (by decide) ?_
  refine lv_bipush (v := (nI 32)) hx hb dX0_recover_78 (by decide) ?_
  refine va_copyi (p := p) (l := l) hx hb (hml.trans hl.1.symm) hown (hts (.methodLink RX0 122 arraycopyName) (by decide +kernel)) (hts (.native arraycopyName) (by decide +kernel)) (hts (.static arraycopyName) (by decide +kernel)) (hts (.initialized "java/lang/System") (by decide +kernel)) hK hP hD hS 1 2 0 0 rfl rfl rfl rfl rfl (sp := nI 0) (dp := nI 0) (n := nI 32) (by decide) (by decide) (by decide) (Nat.le_of_ble_eq_true rfl) (Nat.le_of_ble_eq_true rfl) (fun _ _ => rfl) (Nat.le_of_ble_eq_true rfl) (by decide) dX0_recover_80 (fun H locs hP hD hS => ?_)
  have hP : va_P (dC, dI) vwCl (wX0 cA h0 q0 q1 q2 q3 q4 q5 ((kx_pw ((((kx_hf (w, nI 0, wia, nI 0) mk).1).1), (((kx_hf (w, nI 0, wia, nI 0) mk).1).2.1), (((kx_hf (w, nI 0, wia, nI 0) mk).1).2.2.1), (((kx_hf (w, nI 0, wia, nI 0) mk).1).2.2.2)) 32 (nI 0)).1) (va_cpy ((kx_pw ((((kx_hf (w, nI 0, wia, nI 0) mk).1).1), (((kx_hf (w, nI 0, wia, nI 0) mk).1).2.1), (((kx_hf (w, nI 0, wia, nI 0) mk).1).2.2.1), (((kx_hf (w, nI 0, wia, nI 0) mk).1).2.2.2)) 32 (nI 0)).1) ce 0 0 32) nm tl tc tw 0 0 0 ((kx_pw ((((kx_hf (w, nI 0, wia, nI 0) mk).1).1), (((kx_hf (w, nI 0, wia, nI 0) mk).1).2.1), (((kx_hf (w, nI 0, wia, nI 0) mk).1).2.2.1), (((kx_hf (w, nI 0, wia, nI 0) mk).1).2.2.2)) 32 (nI 0)).2.1) ((kx_pw ((((kx_hf (w, nI 0, wia, nI 0) mk).1).1), (((kx_hf (w, nI 0, wia, nI 0) mk).1).2.1), (((kx_hf (w, nI 0, wia, nI 0) mk).1).2.2.1), (((kx_hf (w, nI 0, wia, nI 0) mk).1).2.2.2)) 32 (nI 0)).2.2.1) ((kx_pw ((((kx_hf (w, nI 0, wia, nI 0) mk).1).1), (((kx_hf (w, nI 0, wia, nI 0) mk).1).2.1), (((kx_hf (w, nI 0, wia, nI 0) mk).1).2.2.1), (((kx_hf (w, nI 0, wia, nI 0) mk).1).2.2.2)) 32 (nI 0)).2.2.2)) H := hP
  have hD : va_D A (wX0 cA h0 q0 q1 q2 q3 q4 q5 ((kx_pw ((((kx_hf (w, nI 0, wia, nI 0) mk).1).1), (((kx_hf (w, nI 0, wia, nI 0) mk).1).2.1), (((kx_hf (w, nI 0, wia, nI 0) mk).1).2.2.1), (((kx_hf (w, nI 0, wia, nI 0) mk).1).2.2.2)) 32 (nI 0)).1) (va_cpy ((kx_pw ((((kx_hf (w, nI 0, wia, nI 0) mk).1).1), (((kx_hf (w, nI 0, wia, nI 0) mk).1).2.1), (((kx_hf (w, nI 0, wia, nI 0) mk).1).2.2.1), (((kx_hf (w, nI 0, wia, nI 0) mk).1).2.2.2)) 32 (nI 0)).1) ce 0 0 32) nm tl tc tw 0 0 0 ((kx_pw ((((kx_hf (w, nI 0, wia, nI 0) mk).1).1), (((kx_hf (w, nI 0, wia, nI 0) mk).1).2.1), (((kx_hf (w, nI 0, wia, nI 0) mk).1).2.2.1), (((kx_hf (w, nI 0, wia, nI 0) mk).1).2.2.2)) 32 (nI 0)).2.1) ((kx_pw ((((kx_hf (w, nI 0, wia, nI 0) mk).1).1), (((kx_hf (w, nI 0, wia, nI 0) mk).1).2.1), (((kx_hf (w, nI 0, wia, nI 0) mk).1).2.2.1), (((kx_hf (w, nI 0, wia, nI 0) mk).1).2.2.2)) 32 (nI 0)).2.2.1) ((kx_pw ((((kx_hf (w, nI 0, wia, nI 0) mk).1).1), (((kx_hf (w, nI 0, wia, nI 0) mk).1).2.1), (((kx_hf (w, nI 0, wia, nI 0) mk).1).2.2.1), (((kx_hf (w, nI 0, wia, nI 0) mk).1).2.2.2)) 32 (nI 0)).2.2.2)) := hD
  refine lv_iload_n hx hb dX0_recover_83 rfl (lv_at hl 0 rfl) ?_
  exact kMi_ret hx hb hr hlocks hP hK hD hS dX0_recover_84 rfl rfl
set_option maxHeartbeats 4000000 in
set_option maxRecDepth 100000 in
/-- NestCells.recover_b  -/
theorem c_X0_recover_b (l : Launch) (dC : Nat → ClassId) (dI : Nat → Nat → Nat) (cA : ClassId) (h0 q0 q1 q2 q3 q4 q5 : Nat) (w ce nm tl tc tw : Nat → Int32) (T n z : Nat) (wtc wia off : Int32)  (hb9 : w 32 < nI 1 ∨ nI 32 < w 32) (h0k : ¬ w 32 = 0) : kMi l yX0_recover wsX0_recover ({ frames := 2, cells := 0, slots := 0, locals := 60 }) dC dI [(cA, .int)] (wX0 cA h0 q0 q1 q2 q3 q4 q5 w ce nm tl tc tw T n z wtc wia off) [.ref h0] (nI 0) (wX0 cA h0 q0 q1 q2 q3 q4 q5 (((kx_pw (w, nI 0, wia, nI 0) 32 (nI 0))).1) (va_cpy ((kx_pw (w, nI 0, wia, nI 0) 32 (nI 0))).1 ce 0 0 32) nm tl tc tw 0 0 0 (((kx_pw (w, nI 0, wia, nI 0) 32 (nI 0))).2.1) (((kx_pw (w, nI 0, wia, nI 0) 32 (nI 0))).2.2.1) (((kx_pw (w, nI 0, wia, nI 0) 32 (nI 0))).2.2.2)) := by
  refine kMi_of (cc := cX0_recover) (maxL := 2) (ret := (some .int)) (by decide) rfl (Nat.le_of_ble_eq_true rfl) ?_
  intro p e s m below meth c A ls hx hb hml hr hts hown hlocks hA hP hK hD hS hl
  have hin : ∀ w ∈ u_ws RX0 TX0 12, w ∈ wsX0_recover := by decide +kernel
  have hl : lv_has ls 2 [(0, .ref h0)] := hl
  refine lv_aload_n hx hb dX0_recover_0 rfl (lv_at hl 0 rfl) ?_
  refine kv_Vv (Xr := []) (n := 0) (c_X0_forgetTransactions l dC dI cA h0 q0 q1 q2 q3 q4 q5 w ce nm tl tc tw T n z wtc wia off  ) hx hb hml hown hts gX0_recover_X0_forgetTransactions rfl ⟨rfl, rfl⟩ (by decide +kernel) rfl ⟨Nat.le_of_ble_eq_true rfl, Nat.le_of_ble_eq_true rfl⟩ hK hP hD hS hA [0] [0, 1, 2, 3, 4, 5, 6] [] rfl rfl rfl (by decide) (by decide) (q0 := 0) rfl rfl rfl (by decide) hl.1 rfl (Nat.le_of_ble_eq_true rfl) dX0_recover_1 ⟨Nat.zero_le _, Nat.zero_le _⟩ (fun H locs hP hD hS => ?_)
  have hP : va_P (dC, dI) vwCl (wX0 cA h0 q0 q1 q2 q3 q4 q5 w ce nm tl tc tw 0 0 0 wtc wia off) H := hP
  have hD : va_D A (wX0 cA h0 q0 q1 q2 q3 q4 q5 w ce nm tl tc tw 0 0 0 wtc wia off) := hD
  refine lv_aload_n hx hb dX0_recover_4 rfl (lv_at hl 0 rfl) ?_
  refine lv_iconst (v := (nI 0)) hx hb dX0_recover_5 (by decide) ?_
  refine va_put (D := (dC, dI)) (ci := 0) (v := .int (nI 0)) (ty := .int) (C := RX0) (T := TX0) (N := 12) hx hb hts hin tyX0 tyX0_ok nmX0 hown hK hP hD hS 0 rfl rfl 9 (by decide) (hts (.fieldLink RX0 37 "NestCells" "writesTillCrash" "I") (by decide +kernel)) (fun _ h9 => h9) rfl (by decide +kernel) rfl rfl (Nat.le_of_ble_eq_true rfl) dX0_recover_6 (fun H locs hP hD hS => ?_)
  have hP : va_P (dC, dI) vwCl (wX0 cA h0 q0 q1 q2 q3 q4 q5 w ce nm tl tc tw 0 0 0 (nI 0) wia off) H := hP
  have hD : va_D A (wX0 cA h0 q0 q1 q2 q3 q4 q5 w ce nm tl tc tw 0 0 0 (nI 0) wia off) := hD
  refine lv_aload_n hx hb dX0_recover_9 rfl (lv_at hl 0 rfl) ?_
  refine lv_iconst (v := (nI 0)) hx hb dX0_recover_10 (by decide) ?_
  refine va_put (D := (dC, dI)) (ci := 0) (v := .int (nI 0)) (ty := .boolean) (C := RX0) (T := TX0) (N := 12) hx hb hts hin tyX0 tyX0_ok nmX0 hown hK hP hD hS 0 rfl rfl 11 (by decide) (hts (.fieldLink RX0 44 "NestCells" "off" "Z") (by decide +kernel)) (fun _ h9 => h9) rfl (by decide +kernel) rfl rfl (Nat.le_of_ble_eq_true rfl) dX0_recover_11 (fun H locs hP hD hS => ?_)
  have hP : va_P (dC, dI) vwCl (wX0 cA h0 q0 q1 q2 q3 q4 q5 w ce nm tl tc tw 0 0 0 (nI 0) wia (nI 0)) H := hP
  have hD : va_D A (wX0 cA h0 q0 q1 q2 q3 q4 q5 w ce nm tl tc tw 0 0 0 (nI 0) wia (nI 0)) := hD
  refine lv_iconst (v := (nI 0)) hx hb dX0_recover_14 (by decide) ?_
  refine lv_istore_n (lv' := [(1, .int (nI 0)), (0, .ref h0)]) hx hb dX0_recover_15 rfl hl (by decide) rfl (fun ls hl => ?_)
  refine lv_aload_n hx hb dX0_recover_16 rfl (lv_at hl 1 rfl) ?_
  refine va_get (D := (dC, dI)) (ci := 0) (v := .ref q0) (C := RX0) (T := TX0) (N := 12) hx hb hts hin hown hK hP 0 rfl rfl 0 (by decide) (hts (.fieldLink RX0 9 "NestCells" "words" "[I") (by decide +kernel)) (fun _ h9 => h9) rfl dX0_recover_17 ?_
  refine lv_bipush (v := (nI 32)) hx hb dX0_recover_20 (by decide) ?_
  refine kv_iald hx hb hK hP 1 0 rfl rfl (by omega) (by omega) dX0_recover_22 ?_
  refine lv_iconst (v := (nI 1)) hx hb dX0_recover_23 (by decide) ?_
  refine lv_icmp_lt (tgt := 51) hx hb dX0_recover_24 (by decide) (fun h24_0 => ?_) (fun h24_0 => ?_)
  · skip
    refine lv_aload_n hx hb dX0_recover_51 rfl (lv_at hl 1 rfl) ?_
    refine va_get (D := (dC, dI)) (ci := 0) (v := .ref q0) (C := RX0) (T := TX0) (N := 12) hx hb hts hin hown hK hP 0 rfl rfl 0 (by decide) (hts (.fieldLink RX0 9 "NestCells" "words" "[I") (by decide +kernel)) (fun _ h9 => h9) rfl dX0_recover_52 ?_
    refine lv_bipush (v := (nI 32)) hx hb dX0_recover_55 (by decide) ?_
    refine kv_iald hx hb hK hP 1 0 rfl rfl (by omega) (by omega) dX0_recover_57 ?_
    refine lv_if_eq (tgt := 68) hx hb dX0_recover_58 (by decide) (fun h58_1 => absurd h58_1 h0k) (fun h58_1 => ?_)
    refine lv_aload_n hx hb dX0_recover_61 rfl (lv_at hl 1 rfl) ?_
    refine lv_bipush (v := (nI 32)) hx hb dX0_recover_62 (by decide) ?_
    refine lv_iconst (v := (nI 0)) hx hb dX0_recover_64 (by decide) ?_
    refine kv_Vv (Xr := []) (n := 2) (c_X0_putWord l dC dI cA h0 q0 q1 q2 q3 q4 q5 w ce nm tl tc tw 0 0 0 (nI 0) wia (nI 0) 32 (nI 0) (by omega)) hx hb hml hown hts gX0_recover_X0_putWord rfl ⟨rfl, rfl⟩ (by decide +kernel) rfl ⟨Nat.le_of_ble_eq_true rfl, Nat.le_of_ble_eq_true rfl⟩ hK hP hD hS hA [0] [0, 1, 2, 3, 4, 5, 6] [] rfl rfl rfl (by decide) (by decide) (q0 := 0) rfl rfl rfl (by decide) hl.1 rfl (Nat.le_of_ble_eq_true rfl) dX0_recover_65 ⟨Nat.zero_le _, Nat.zero_le _⟩ (fun H locs hP hD hS => ?_)
    have hP : va_P (dC, dI) vwCl (wX0 cA h0 q0 q1 q2 q3 q4 q5 ((kx_pw (w, (nI 0), wia, (nI 0)) 32 (nI 0)).1) ce nm tl tc tw 0 0 0 ((kx_pw (w, (nI 0), wia, (nI 0)) 32 (nI 0)).2.1) ((kx_pw (w, (nI 0), wia, (nI 0)) 32 (nI 0)).2.2.1) ((kx_pw (w, (nI 0), wia, (nI 0)) 32 (nI 0)).2.2.2)) H := hP
    have hD : va_D A (wX0 cA h0 q0 q1 q2 q3 q4 q5 ((kx_pw (w, (nI 0), wia, (nI 0)) 32 (nI 0)).1) ce nm tl tc tw 0 0 0 ((kx_pw (w, (nI 0), wia, (nI 0)) 32 (nI 0)).2.1) ((kx_pw (w, (nI 0), wia, (nI 0)) 32 (nI 0)).2.2.1) ((kx_pw (w, (nI 0), wia, (nI 0)) 32 (nI 0)).2.2.2)) := hD
    refine lv_aload_n hx hb dX0_recover_68 rfl (lv_at hl 1 rfl) ?_
    refine va_get (D := (dC, dI)) (ci := 0) (v := .ref q0) (C := RX0) (T := TX0) (N := 12) hx hb hts hin hown hK hP 0 rfl rfl 0 (by decide) (hts (.fieldLink RX0 9 "NestCells" "words" "[I") (by decide +kernel)) (fun _ h9 => h9) rfl dX0_recover_69 ?_
    refine lv_iconst (v := (nI 0)) hx hb dX0_recover_72 (by decide) ?_
    refine lv_aload_n hx hb dX0_recover_73 rfl (lv_at hl 1 rfl) ?_
    refine va_get (D := (dC, dI)) (ci := 0) (v := .ref q1) (C := RX0) (T := TX0) (N := 12) hx hb hts hin hown hK hP 0 rfl rfl 1 (by decide) (hts (.fieldLink RX0 13 "NestCells" "cells" "[I") (by decide +kernel)) (fun _ h9 => h9) rfl dX0_recover_74 ?_
    refine lv_iconst (v := (nI 0)) hx hb dX0_recover_77 (by decide) ?_
    refine lv_bipush (v := (nI 32)) hx hb dX0_recover_78 (by decide) ?_
    refine va_copyi (p := p) (l := l) hx hb (hml.trans hl.1.symm) hown (hts (.methodLink RX0 122 arraycopyName) (by decide +kernel)) (hts (.native arraycopyName) (by decide +kernel)) (hts (.static arraycopyName) (by decide +kernel)) (hts (.initialized "java/lang/System") (by decide +kernel)) hK hP hD hS 1 2 0 0 rfl rfl rfl rfl rfl (sp := nI 0) (dp := nI 0) (n := nI 32) (by decide) (by decide) (by decide) (Nat.le_of_ble_eq_true rfl) (Nat.le_of_ble_eq_true rfl) (fun _ _ => rfl) (Nat.le_of_ble_eq_true rfl) (by decide) dX0_recover_80 (fun H locs hP hD hS => ?_)
    have hP : va_P (dC, dI) vwCl (wX0 cA h0 q0 q1 q2 q3 q4 q5 ((kx_pw (w, (nI 0), wia, (nI 0)) 32 (nI 0)).1) (va_cpy ((kx_pw (w, (nI 0), wia, (nI 0)) 32 (nI 0)).1) ce 0 0 32) nm tl tc tw 0 0 0 ((kx_pw (w, (nI 0), wia, (nI 0)) 32 (nI 0)).2.1) ((kx_pw (w, (nI 0), wia, (nI 0)) 32 (nI 0)).2.2.1) ((kx_pw (w, (nI 0), wia, (nI 0)) 32 (nI 0)).2.2.2)) H := hP
    have hD : va_D A (wX0 cA h0 q0 q1 q2 q3 q4 q5 ((kx_pw (w, (nI 0), wia, (nI 0)) 32 (nI 0)).1) (va_cpy ((kx_pw (w, (nI 0), wia, (nI 0)) 32 (nI 0)).1) ce 0 0 32) nm tl tc tw 0 0 0 ((kx_pw (w, (nI 0), wia, (nI 0)) 32 (nI 0)).2.1) ((kx_pw (w, (nI 0), wia, (nI 0)) 32 (nI 0)).2.2.1) ((kx_pw (w, (nI 0), wia, (nI 0)) 32 (nI 0)).2.2.2)) := hD
    refine lv_iload_n hx hb dX0_recover_83 rfl (lv_at hl 0 rfl) ?_
    exact kMi_ret hx hb hr hlocks hP hK hD hS dX0_recover_84 rfl rfl
  · skip
    refine lv_aload_n hx hb dX0_recover_27 rfl (lv_at hl 1 rfl) ?_
    refine va_get (D := (dC, dI)) (ci := 0) (v := .ref q0) (C := RX0) (T := TX0) (N := 12) hx hb hts hin hown hK hP 0 rfl rfl 0 (by decide) (hts (.fieldLink RX0 9 "NestCells" "words" "[I") (by decide +kernel)) (fun _ h9 => h9) rfl dX0_recover_28 ?_
    refine lv_bipush (v := (nI 32)) hx hb dX0_recover_31 (by decide) ?_
    refine kv_iald hx hb hK hP 1 0 rfl rfl (by omega) (by omega) dX0_recover_33 ?_
    refine lv_bipush (v := (nI 32)) hx hb dX0_recover_34 (by decide) ?_
    refine lv_icmp_gt (tgt := 51) hx hb dX0_recover_36 (by decide) (fun h36_1 => ?_) (fun h36_1 => ((hb9.elim h24_0 h36_1)).elim)
    refine lv_aload_n hx hb dX0_recover_51 rfl (lv_at hl 1 rfl) ?_
    refine va_get (D := (dC, dI)) (ci := 0) (v := .ref q0) (C := RX0) (T := TX0) (N := 12) hx hb hts hin hown hK hP 0 rfl rfl 0 (by decide) (hts (.fieldLink RX0 9 "NestCells" "words" "[I") (by decide +kernel)) (fun _ h9 => h9) rfl dX0_recover_52 ?_
    refine lv_bipush (v := (nI 32)) hx hb dX0_recover_55 (by decide) ?_
    refine kv_iald hx hb hK hP 1 0 rfl rfl (by omega) (by omega) dX0_recover_57 ?_
    refine lv_if_eq (tgt := 68) hx hb dX0_recover_58 (by decide) (fun h58_1 => absurd h58_1 h0k) (fun h58_1 => ?_)
    refine lv_aload_n hx hb dX0_recover_61 rfl (lv_at hl 1 rfl) ?_
    refine lv_bipush (v := (nI 32)) hx hb dX0_recover_62 (by decide) ?_
    refine lv_iconst (v := (nI 0)) hx hb dX0_recover_64 (by decide) ?_
    refine kv_Vv (Xr := []) (n := 2) (c_X0_putWord l dC dI cA h0 q0 q1 q2 q3 q4 q5 w ce nm tl tc tw 0 0 0 (nI 0) wia (nI 0) 32 (nI 0) (by omega)) hx hb hml hown hts gX0_recover_X0_putWord rfl ⟨rfl, rfl⟩ (by decide +kernel) rfl ⟨Nat.le_of_ble_eq_true rfl, Nat.le_of_ble_eq_true rfl⟩ hK hP hD hS hA [0] [0, 1, 2, 3, 4, 5, 6] [] rfl rfl rfl (by decide) (by decide) (q0 := 0) rfl rfl rfl (by decide) hl.1 rfl (Nat.le_of_ble_eq_true rfl) dX0_recover_65 ⟨Nat.zero_le _, Nat.zero_le _⟩ (fun H locs hP hD hS => ?_)
    have hP : va_P (dC, dI) vwCl (wX0 cA h0 q0 q1 q2 q3 q4 q5 ((kx_pw (w, (nI 0), wia, (nI 0)) 32 (nI 0)).1) ce nm tl tc tw 0 0 0 ((kx_pw (w, (nI 0), wia, (nI 0)) 32 (nI 0)).2.1) ((kx_pw (w, (nI 0), wia, (nI 0)) 32 (nI 0)).2.2.1) ((kx_pw (w, (nI 0), wia, (nI 0)) 32 (nI 0)).2.2.2)) H := hP
    have hD : va_D A (wX0 cA h0 q0 q1 q2 q3 q4 q5 ((kx_pw (w, (nI 0), wia, (nI 0)) 32 (nI 0)).1) ce nm tl tc tw 0 0 0 ((kx_pw (w, (nI 0), wia, (nI 0)) 32 (nI 0)).2.1) ((kx_pw (w, (nI 0), wia, (nI 0)) 32 (nI 0)).2.2.1) ((kx_pw (w, (nI 0), wia, (nI 0)) 32 (nI 0)).2.2.2)) := hD
    refine lv_aload_n hx hb dX0_recover_68 rfl (lv_at hl 1 rfl) ?_
    refine va_get (D := (dC, dI)) (ci := 0) (v := .ref q0) (C := RX0) (T := TX0) (N := 12) hx hb hts hin hown hK hP 0 rfl rfl 0 (by decide) (hts (.fieldLink RX0 9 "NestCells" "words" "[I") (by decide +kernel)) (fun _ h9 => h9) rfl dX0_recover_69 ?_
    refine lv_iconst (v := (nI 0)) hx hb dX0_recover_72 (by decide) ?_
    refine lv_aload_n hx hb dX0_recover_73 rfl (lv_at hl 1 rfl) ?_
    refine va_get (D := (dC, dI)) (ci := 0) (v := .ref q1) (C := RX0) (T := TX0) (N := 12) hx hb hts hin hown hK hP 0 rfl rfl 1 (by decide) (hts (.fieldLink RX0 13 "NestCells" "cells" "[I") (by decide +kernel)) (fun _ h9 => h9) rfl dX0_recover_74 ?_
    refine lv_iconst (v := (nI 0)) hx hb dX0_recover_77 (by decide) ?_
    refine lv_bipush (v := (nI 32)) hx hb dX0_recover_78 (by decide) ?_
    refine va_copyi (p := p) (l := l) hx hb (hml.trans hl.1.symm) hown (hts (.methodLink RX0 122 arraycopyName) (by decide +kernel)) (hts (.native arraycopyName) (by decide +kernel)) (hts (.static arraycopyName) (by decide +kernel)) (hts (.initialized "java/lang/System") (by decide +kernel)) hK hP hD hS 1 2 0 0 rfl rfl rfl rfl rfl (sp := nI 0) (dp := nI 0) (n := nI 32) (by decide) (by decide) (by decide) (Nat.le_of_ble_eq_true rfl) (Nat.le_of_ble_eq_true rfl) (fun _ _ => rfl) (Nat.le_of_ble_eq_true rfl) (by decide) dX0_recover_80 (fun H locs hP hD hS => ?_)
    have hP : va_P (dC, dI) vwCl (wX0 cA h0 q0 q1 q2 q3 q4 q5 ((kx_pw (w, (nI 0), wia, (nI 0)) 32 (nI 0)).1) (va_cpy ((kx_pw (w, (nI 0), wia, (nI 0)) 32 (nI 0)).1) ce 0 0 32) nm tl tc tw 0 0 0 ((kx_pw (w, (nI 0), wia, (nI 0)) 32 (nI 0)).2.1) ((kx_pw (w, (nI 0), wia, (nI 0)) 32 (nI 0)).2.2.1) ((kx_pw (w, (nI 0), wia, (nI 0)) 32 (nI 0)).2.2.2)) H := hP
    have hD : va_D A (wX0 cA h0 q0 q1 q2 q3 q4 q5 ((kx_pw (w, (nI 0), wia, (nI 0)) 32 (nI 0)).1) (va_cpy ((kx_pw (w, (nI 0), wia, (nI 0)) 32 (nI 0)).1) ce 0 0 32) nm tl tc tw 0 0 0 ((kx_pw (w, (nI 0), wia, (nI 0)) 32 (nI 0)).2.1) ((kx_pw (w, (nI 0), wia, (nI 0)) 32 (nI 0)).2.2.1) ((kx_pw (w, (nI 0), wia, (nI 0)) 32 (nI 0)).2.2.2)) := hD
    refine lv_iload_n hx hb dX0_recover_83 rfl (lv_at hl 0 rfl) ?_
    exact kMi_ret hx hb hr hlocks hP hK hD hS dX0_recover_84 rfl rfl
set_option maxHeartbeats 4000000 in
set_option maxRecDepth 100000 in
/-- NestCells.recover_c  -/
theorem c_X0_recover_c (l : Launch) (dC : Nat → ClassId) (dI : Nat → Nat → Nat) (cA : ClassId) (h0 q0 q1 q2 q3 q4 q5 : Nat) (w ce nm tl tc tw : Nat → Int32) (T n z : Nat) (wtc wia off : Int32)  (h0k : w 32 = 0) : kMi l yX0_recover wsX0_recover ({ frames := 2, cells := 0, slots := 0, locals := 60 }) dC dI [(cA, .int)] (wX0 cA h0 q0 q1 q2 q3 q4 q5 w ce nm tl tc tw T n z wtc wia off) [.ref h0] (nI 0) (wX0 cA h0 q0 q1 q2 q3 q4 q5 (((w, nI 0, wia, nI 0)).1) (va_cpy ((w, nI 0, wia, nI 0)).1 ce 0 0 32) nm tl tc tw 0 0 0 (((w, nI 0, wia, nI 0)).2.1) (((w, nI 0, wia, nI 0)).2.2.1) (((w, nI 0, wia, nI 0)).2.2.2)) := by
  refine kMi_of (cc := cX0_recover) (maxL := 2) (ret := (some .int)) (by decide) rfl (Nat.le_of_ble_eq_true rfl) ?_
  intro p e s m below meth c A ls hx hb hml hr hts hown hlocks hA hP hK hD hS hl
  have hin : ∀ w ∈ u_ws RX0 TX0 12, w ∈ wsX0_recover := by decide +kernel
  have hl : lv_has ls 2 [(0, .ref h0)] := hl
  refine lv_aload_n hx hb dX0_recover_0 rfl (lv_at hl 0 rfl) ?_
  refine kv_Vv (Xr := []) (n := 0) (c_X0_forgetTransactions l dC dI cA h0 q0 q1 q2 q3 q4 q5 w ce nm tl tc tw T n z wtc wia off  ) hx hb hml hown hts gX0_recover_X0_forgetTransactions rfl ⟨rfl, rfl⟩ (by decide +kernel) rfl ⟨Nat.le_of_ble_eq_true rfl, Nat.le_of_ble_eq_true rfl⟩ hK hP hD hS hA [0] [0, 1, 2, 3, 4, 5, 6] [] rfl rfl rfl (by decide) (by decide) (q0 := 0) rfl rfl rfl (by decide) hl.1 rfl (Nat.le_of_ble_eq_true rfl) dX0_recover_1 ⟨Nat.zero_le _, Nat.zero_le _⟩ (fun H locs hP hD hS => ?_)
  have hP : va_P (dC, dI) vwCl (wX0 cA h0 q0 q1 q2 q3 q4 q5 w ce nm tl tc tw 0 0 0 wtc wia off) H := hP
  have hD : va_D A (wX0 cA h0 q0 q1 q2 q3 q4 q5 w ce nm tl tc tw 0 0 0 wtc wia off) := hD
  refine lv_aload_n hx hb dX0_recover_4 rfl (lv_at hl 0 rfl) ?_
  refine lv_iconst (v := (nI 0)) hx hb dX0_recover_5 (by decide) ?_
  refine va_put (D := (dC, dI)) (ci := 0) (v := .int (nI 0)) (ty := .int) (C := RX0) (T := TX0) (N := 12) hx hb hts hin tyX0 tyX0_ok nmX0 hown hK hP hD hS 0 rfl rfl 9 (by decide) (hts (.fieldLink RX0 37 "NestCells" "writesTillCrash" "I") (by decide +kernel)) (fun _ h9 => h9) rfl (by decide +kernel) rfl rfl (Nat.le_of_ble_eq_true rfl) dX0_recover_6 (fun H locs hP hD hS => ?_)
  have hP : va_P (dC, dI) vwCl (wX0 cA h0 q0 q1 q2 q3 q4 q5 w ce nm tl tc tw 0 0 0 (nI 0) wia off) H := hP
  have hD : va_D A (wX0 cA h0 q0 q1 q2 q3 q4 q5 w ce nm tl tc tw 0 0 0 (nI 0) wia off) := hD
  refine lv_aload_n hx hb dX0_recover_9 rfl (lv_at hl 0 rfl) ?_
  refine lv_iconst (v := (nI 0)) hx hb dX0_recover_10 (by decide) ?_
  refine va_put (D := (dC, dI)) (ci := 0) (v := .int (nI 0)) (ty := .boolean) (C := RX0) (T := TX0) (N := 12) hx hb hts hin tyX0 tyX0_ok nmX0 hown hK hP hD hS 0 rfl rfl 11 (by decide) (hts (.fieldLink RX0 44 "NestCells" "off" "Z") (by decide +kernel)) (fun _ h9 => h9) rfl (by decide +kernel) rfl rfl (Nat.le_of_ble_eq_true rfl) dX0_recover_11 (fun H locs hP hD hS => ?_)
  have hP : va_P (dC, dI) vwCl (wX0 cA h0 q0 q1 q2 q3 q4 q5 w ce nm tl tc tw 0 0 0 (nI 0) wia (nI 0)) H := hP
  have hD : va_D A (wX0 cA h0 q0 q1 q2 q3 q4 q5 w ce nm tl tc tw 0 0 0 (nI 0) wia (nI 0)) := hD
  refine lv_iconst (v := (nI 0)) hx hb dX0_recover_14 (by decide) ?_
  refine lv_istore_n (lv' := [(1, .int (nI 0)), (0, .ref h0)]) hx hb dX0_recover_15 rfl hl (by decide) rfl (fun ls hl => ?_)
  refine lv_aload_n hx hb dX0_recover_16 rfl (lv_at hl 1 rfl) ?_
  refine va_get (D := (dC, dI)) (ci := 0) (v := .ref q0) (C := RX0) (T := TX0) (N := 12) hx hb hts hin hown hK hP 0 rfl rfl 0 (by decide) (hts (.fieldLink RX0 9 "NestCells" "words" "[I") (by decide +kernel)) (fun _ h9 => h9) rfl dX0_recover_17 ?_
  refine lv_bipush (v := (nI 32)) hx hb dX0_recover_20 (by decide) ?_
  refine kv_iald hx hb hK hP 1 0 rfl rfl (by omega) (by omega) dX0_recover_22 ?_
  refine lv_iconst (v := (nI 1)) hx hb dX0_recover_23 (by decide) ?_
  refine lv_icmp_lt (tgt := 51) hx hb dX0_recover_24 (by decide) (fun h24_0 => ?_) (fun h24_0 => ((h24_0 (by rw [h0k]; decide))).elim)
  refine lv_aload_n hx hb dX0_recover_51 rfl (lv_at hl 1 rfl) ?_
  refine va_get (D := (dC, dI)) (ci := 0) (v := .ref q0) (C := RX0) (T := TX0) (N := 12) hx hb hts hin hown hK hP 0 rfl rfl 0 (by decide) (hts (.fieldLink RX0 9 "NestCells" "words" "[I") (by decide +kernel)) (fun _ h9 => h9) rfl dX0_recover_52 ?_
  refine lv_bipush (v := (nI 32)) hx hb dX0_recover_55 (by decide) ?_
  refine kv_iald hx hb hK hP 1 0 rfl rfl (by omega) (by omega) dX0_recover_57 ?_
  refine lv_if_eq (tgt := 68) hx hb dX0_recover_58 (by decide) (fun h58_0 => ?_) (fun h58_0 => absurd h58_0 (fun q => q h0k))
  refine lv_aload_n hx hb dX0_recover_68 rfl (lv_at hl 1 rfl) ?_
  refine va_get (D := (dC, dI)) (ci := 0) (v := .ref q0) (C := RX0) (T := TX0) (N := 12) hx hb hts hin hown hK hP 0 rfl rfl 0 (by decide) (hts (.fieldLink RX0 9 "NestCells" "words" "[I") (by decide +kernel)) (fun _ h9 => h9) rfl dX0_recover_69 ?_
  refine lv_iconst (v := (nI 0)) hx hb dX0_recover_72 (by decide) ?_
  refine lv_aload_n hx hb dX0_recover_73 rfl (lv_at hl 1 rfl) ?_
  refine va_get (D := (dC, dI)) (ci := 0) (v := .ref q1) (C := RX0) (T := TX0) (N := 12) hx hb hts hin hown hK hP 0 rfl rfl 1 (by decide) (hts (.fieldLink RX0 13 "NestCells" "cells" "[I") (by decide +kernel)) (fun _ h9 => h9) rfl dX0_recover_74 ?_
  refine lv_iconst (v := (nI 0)) hx hb dX0_recover_77 (by decide) ?_
  refine lv_bipush (v := (nI 32)) hx hb dX0_recover_78 (by decide) ?_
  refine va_copyi (p := p) (l := l) hx hb (hml.trans hl.1.symm) hown (hts (.methodLink RX0 122 arraycopyName) (by decide +kernel)) (hts (.native arraycopyName) (by decide +kernel)) (hts (.static arraycopyName) (by decide +kernel)) (hts (.initialized "java/lang/System") (by decide +kernel)) hK hP hD hS 1 2 0 0 rfl rfl rfl rfl rfl (sp := nI 0) (dp := nI 0) (n := nI 32) (by decide) (by decide) (by decide) (Nat.le_of_ble_eq_true rfl) (Nat.le_of_ble_eq_true rfl) (fun _ _ => rfl) (Nat.le_of_ble_eq_true rfl) (by decide) dX0_recover_80 (fun H locs hP hD hS => ?_)
  have hP : va_P (dC, dI) vwCl (wX0 cA h0 q0 q1 q2 q3 q4 q5 w (va_cpy w ce 0 0 32) nm tl tc tw 0 0 0 (nI 0) wia (nI 0)) H := hP
  have hD : va_D A (wX0 cA h0 q0 q1 q2 q3 q4 q5 w (va_cpy w ce 0 0 32) nm tl tc tw 0 0 0 (nI 0) wia (nI 0)) := hD
  refine lv_iload_n hx hb dX0_recover_83 rfl (lv_at hl 0 rfl) ?_
  exact kMi_ret hx hb hr hlocks hP hK hD hS dX0_recover_84 rfl rfl
