set_option maxHeartbeats 4000000 in
set_option maxRecDepth 100000 in
/-- NestCellsModel.recover_a  -/
theorem c_X1_recover_a (l : Launch) (dC : Nat → ClassId) (dI : Nat → Nat → Nat) (cA : ClassId) (g0 r1 r2 r3 r4 r5 : Nat) (ce w we wr nm : Nat → Int32) (n T : Nat) (cd off told wia : Int32) (mk : Nat)  (hmk : w 32 = nI mk) (h1k : 1 ≤ mk) (h2k : mk ≤ 32) : kMi l yX1_recover wsX1_recover ({ frames := 1, cells := 0, slots := 0, locals := 20 }) dC dI [(cA, .int)] (wX1 cA g0 r1 r2 r3 r4 r5 ce w we wr nm n T cd off told wia) [.ref g0] (nI ((rx_hf w mk).2)) (wX1 cA g0 r1 r2 r3 r4 r5 (va_cpy (upd ((rx_hf w mk).1) 32 (nI 0)) ce 0 0 32) (upd ((rx_hf w mk).1) 32 (nI 0)) we wr nm 0 0 (nI 0) (nI 0) (nI 0) (wia + nI ((rx_hf w mk).2 + 1))) := by
  refine kMi_of (cc := cX1_recover) (maxL := 4) (ret := (some .int)) (by decide) rfl (Nat.le_of_ble_eq_true rfl) ?_
  intro p e s m below meth c A ls hx hb hml hr hts hown hlocks hA hP hK hD hS hl
  have hin : ∀ w ∈ u_ws RX1 TX1 11, w ∈ wsX1_recover := by decide +kernel
  have hl : lv_has ls 4 [(0, .ref g0)] := hl
  have hkm := rx_hf_le w mk
  refine lv_aload_n hx hb dX1_recover_0 rfl (lv_at hl 0 rfl) ?_
  refine lv_iconst (v := (nI 0)) hx hb dX1_recover_1 (by decide) ?_
  refine va_put (D := (dC, dI)) (ci := 1) (v := .int (nI 0)) (ty := .int) (C := RX1) (T := TX1) (N := 11) hx hb hts hin tyX1 tyX1_ok nmX1 hown hK hP hD hS 0 rfl rfl 0 (by decide) (hts (.fieldLink RX1 25 "NestCellsModel" "code" "I") (by decide +kernel)) (fun _ h9 => h9) rfl (by decide +kernel) rfl rfl (Nat.le_of_ble_eq_true rfl) dX1_recover_2 (fun H locs hP hD hS => ?_)
  have hP : va_P (dC, dI) vwCl (wX1 cA g0 r1 r2 r3 r4 r5 ce w we wr nm n T (nI 0) off told wia) H := hP
  have hD : va_D A (wX1 cA g0 r1 r2 r3 r4 r5 ce w we wr nm n T (nI 0) off told wia) := hD
  refine lv_aload_n hx hb dX1_recover_5 rfl (lv_at hl 0 rfl) ?_
  refine lv_iconst (v := (nI 0)) hx hb dX1_recover_6 (by decide) ?_
  refine va_put (D := (dC, dI)) (ci := 1) (v := .int (nI 0)) (ty := .int) (C := RX1) (T := TX1) (N := 11) hx hb hts hin tyX1 tyX1_ok nmX1 hown hK hP hD hS 0 rfl rfl 9 (by decide) (hts (.fieldLink RX1 43 "NestCellsModel" "told" "I") (by decide +kernel)) (fun _ h9 => h9) rfl (by decide +kernel) rfl rfl (Nat.le_of_ble_eq_true rfl) dX1_recover_7 (fun H locs hP hD hS => ?_)
  have hP : va_P (dC, dI) vwCl (wX1 cA g0 r1 r2 r3 r4 r5 ce w we wr nm n T (nI 0) off (nI 0) wia) H := hP
  have hD : va_D A (wX1 cA g0 r1 r2 r3 r4 r5 ce w we wr nm n T (nI 0) off (nI 0) wia) := hD
  refine lv_aload_n hx hb dX1_recover_10 rfl (lv_at hl 0 rfl) ?_
  refine lv_iconst (v := (nI 0)) hx hb dX1_recover_11 (by decide) ?_
  refine va_put (D := (dC, dI)) (ci := 1) (v := .int (nI 0)) (ty := .boolean) (C := RX1) (T := TX1) (N := 11) hx hb hts hin tyX1 tyX1_ok nmX1 hown hK hP hD hS 0 rfl rfl 8 (by decide) (hts (.fieldLink RX1 39 "NestCellsModel" "off" "Z") (by decide +kernel)) (fun _ h9 => h9) rfl (by decide +kernel) rfl rfl (Nat.le_of_ble_eq_true rfl) dX1_recover_12 (fun H locs hP hD hS => ?_)
  have hP : va_P (dC, dI) vwCl (wX1 cA g0 r1 r2 r3 r4 r5 ce w we wr nm n T (nI 0) (nI 0) (nI 0) wia) H := hP
  have hD : va_D A (wX1 cA g0 r1 r2 r3 r4 r5 ce w we wr nm n T (nI 0) (nI 0) (nI 0) wia) := hD
  refine lv_aload_n hx hb dX1_recover_15 rfl (lv_at hl 0 rfl) ?_
  refine lv_iconst (v := (nI 0)) hx hb dX1_recover_16 (by decide) ?_
  refine va_put (D := (dC, dI)) (ci := 1) (v := .int (nI 0)) (ty := .int) (C := RX1) (T := TX1) (N := 11) hx hb hts hin tyX1 tyX1_ok nmX1 hown hK hP hD hS 0 rfl rfl 6 (by decide) (hts (.fieldLink RX1 29 "NestCellsModel" "levels" "I") (by decide +kernel)) (fun _ h9 => h9) rfl (by decide +kernel) rfl rfl (Nat.le_of_ble_eq_true rfl) dX1_recover_17 (fun H locs hP hD hS => ?_)
  have hP : va_P (dC, dI) vwCl (wX1 cA g0 r1 r2 r3 r4 r5 ce w we wr nm 0 T (nI 0) (nI 0) (nI 0) wia) H := hP
  have hD : va_D A (wX1 cA g0 r1 r2 r3 r4 r5 ce w we wr nm 0 T (nI 0) (nI 0) (nI 0) wia) := hD
  refine lv_aload_n hx hb dX1_recover_20 rfl (lv_at hl 0 rfl) ?_
  refine lv_iconst (v := (nI 0)) hx hb dX1_recover_21 (by decide) ?_
  refine va_put (D := (dC, dI)) (ci := 1) (v := .int (nI 0)) (ty := .int) (C := RX1) (T := TX1) (N := 11) hx hb hts hin tyX1 tyX1_ok nmX1 hown hK hP hD hS 0 rfl rfl 7 (by decide) (hts (.fieldLink RX1 36 "NestCellsModel" "transactions" "I") (by decide +kernel)) (fun _ h9 => h9) rfl (by decide +kernel) rfl rfl (Nat.le_of_ble_eq_true rfl) dX1_recover_22 (fun H locs hP hD hS => ?_)
  have hP : va_P (dC, dI) vwCl (wX1 cA g0 r1 r2 r3 r4 r5 ce w we wr nm 0 0 (nI 0) (nI 0) (nI 0) wia) H := hP
  have hD : va_D A (wX1 cA g0 r1 r2 r3 r4 r5 ce w we wr nm 0 0 (nI 0) (nI 0) (nI 0) wia) := hD
  refine lv_iconst (v := (nI 0)) hx hb dX1_recover_25 (by decide) ?_
  refine lv_istore_n (lv' := [(1, .int (nI 0)), (0, .ref g0)]) hx hb dX1_recover_26 rfl hl (by decide) rfl (fun ls hl => ?_)
  refine lv_iconst (v := (nI 0)) hx hb dX1_recover_27 (by decide) ?_
  refine lv_istore_n (lv' := [(2, .int (nI 0)), (1, .int (nI 0)), (0, .ref g0)]) hx hb dX1_recover_28 rfl hl (by decide) rfl (fun ls hl => ?_)
  have hP : va_P (dC, dI) vwCl (wX1 cA g0 r1 r2 r3 r4 r5 ce ((rx_hf w 0).1) we wr nm 0 0 (nI 0) (nI 0) (nI 0) wia) H := by exact hP
  have hD : va_D A (wX1 cA g0 r1 r2 r3 r4 r5 ce ((rx_hf w 0).1) we wr nm 0 0 (nI 0) (nI 0) (nI 0) wia) := by exact hD
  have hl : lv_has ls 4 [(2, .int (nI 0)), (1, .int (nI ((rx_hf w 0).2))), (0, .ref g0)] := by exact hl
  have lp : ∀ (k : Nat) (t : Nat), ∀ (_ : t + k = mk), ∀ (H : Heap) (locs : List Loc) (ls : Array Slot), va_P (dC, dI) vwCl (wX1 cA g0 r1 r2 r3 r4 r5 ce ((rx_hf w t).1) we wr nm 0 0 (nI 0) (nI 0) (nI 0) wia) H → va_D A (wX1 cA g0 r1 r2 r3 r4 r5 ce ((rx_hf w t).1) we wr nm 0 0 (nI 0) (nI 0) (nI 0) wia) → va_S A s.heap H locs → lv_has ls 4 [(0, .ref g0), (1, .int (nI ((rx_hf w t).2))), (2, .int (nI t))] → W p l e (headSpec wsX1_recover ({ frames := 1, cells := 0, slots := 0, locals := 20 })).room s m ([.ref g0] : List Value).toArray below meth c H locs 0 0 (MQ below (va_Qi (fun (r' : Int32) (_ : Unit) => r' = (nI ((rx_hf w mk).2))) (kB dC dI [(cA, .int)] (wX1 cA g0 r1 r2 r3 r4 r5 (va_cpy (upd ((rx_hf w mk).1) 32 (nI 0)) ce 0 0 32) (upd ((rx_hf w mk).1) 32 (nI 0)) we wr nm 0 0 (nI 0) (nI 0) (nI 0) (wia + nI ((rx_hf w mk).2 + 1))) A) A) ([.ref g0] : List Value).toArray s 0 0 A) (F0 m 29 ls []) := by
    intro k
    induction k with
    | zero =>
      intro t ht H locs ls hP hD hS hl
      refine lv_iload_n hx hb dX1_recover_29 rfl (lv_at hl 2 rfl) ?_
      refine lv_aload_n hx hb dX1_recover_30 rfl (lv_at hl 0 rfl) ?_
      refine va_get (D := (dC, dI)) (ci := 1) (v := .ref r2) (C := RX1) (T := TX1) (N := 11) hx hb hts hin hown hK hP 0 rfl rfl 2 (by decide) (hts (.fieldLink RX1 13 "NestCellsModel" "disk" "[I") (by decide +kernel)) (fun _ h9 => h9) rfl dX1_recover_31 ?_
      refine lv_bipush (v := (nI 32)) hx hb dX1_recover_34 (by decide) ?_
      refine kv_iald hx hb hK hP 2 0 rfl rfl (by omega) (by omega) dX1_recover_36 ?_
      refine kv_top (w := .int (nI mk)) (congrArg Value.int ((rx_hf_o w 32 (by omega) t).trans hmk)) ?_
      refine kv_ge (tgt := 99) hx hb (by omega) (by omega) dX1_recover_37 (by decide) (fun h37_0 => ?_) (fun h37_0 => absurd h37_0 (by omega))
      have htt : t = mk := by omega
      rw [htt] at hP hD hl
      have hP : va_P (dC, dI) vwCl (wX1 cA g0 r1 r2 r3 r4 r5 ce ((rx_hf w mk).1) we wr nm 0 0 (nI 0) (nI 0) (nI 0) wia) H := by exact hP
      have hD : va_D A (wX1 cA g0 r1 r2 r3 r4 r5 ce ((rx_hf w mk).1) we wr nm 0 0 (nI 0) (nI 0) (nI 0) wia) := by exact hD
      have hl : lv_has ls 4 [(0, .ref g0), (1, .int (nI ((rx_hf w mk).2))), (2, .int (nI mk))] := by exact hl
      refine lv_aload_n hx hb dX1_recover_99 rfl (lv_at hl 0 rfl) ?_
      refine lv_dup hx hb dX1_recover_100 rfl ?_
      refine va_get (D := (dC, dI)) (ci := 1) (v := .int wia) (C := RX1) (T := TX1) (N := 11) hx hb hts hin hown hK hP 0 rfl rfl 10 (by decide) (hts (.fieldLink RX1 46 "NestCellsModel" "writes" "I") (by decide +kernel)) (fun _ h9 => h9) rfl dX1_recover_101 ?_
      refine lv_iload_n hx hb dX1_recover_104 rfl (lv_at hl 1 rfl) ?_
      refine lv_aload_n hx hb dX1_recover_105 rfl (lv_at hl 0 rfl) ?_
      refine va_get (D := (dC, dI)) (ci := 1) (v := .ref r2) (C := RX1) (T := TX1) (N := 11) hx hb hts hin hown hK hP 0 rfl rfl 2 (by decide) (hts (.fieldLink RX1 13 "NestCellsModel" "disk" "[I") (by decide +kernel)) (fun _ h9 => h9) rfl dX1_recover_106 ?_
      refine lv_bipush (v := (nI 32)) hx hb dX1_recover_109 (by decide) ?_
      refine kv_iald hx hb hK hP 2 0 rfl rfl (by omega) (by omega) dX1_recover_111 ?_
      refine kv_top (w := .int (nI mk)) (congrArg Value.int ((rx_hf_o w 32 (by omega) mk).trans hmk)) ?_
      refine kv_if_ne (tgt := 119) hx hb (by omega) dX1_recover_112 (by decide) (fun h112_0 => ?_) (fun h112_0 => absurd h112_0 (by omega))
      refine lv_iconst (v := (nI 1)) hx hb dX1_recover_119 (by decide) ?_
      refine kv_addE (d := ((rx_hf w mk).2) + 1) hx hb (by omega) dX1_recover_120 ?_
      refine lv_iadd hx hb dX1_recover_121 ?_
      refine va_put (D := (dC, dI)) (ci := 1) (v := .int (wia + (nI (((rx_hf w mk).2) + 1)))) (ty := .int) (C := RX1) (T := TX1) (N := 11) hx hb hts hin tyX1 tyX1_ok nmX1 hown hK hP hD hS 0 rfl rfl 10 (by decide) (hts (.fieldLink RX1 46 "NestCellsModel" "writes" "I") (by decide +kernel)) (fun _ h9 => h9) rfl (by decide +kernel) rfl rfl (Nat.le_of_ble_eq_true rfl) dX1_recover_122 (fun H locs hP hD hS => ?_)
      have hP : va_P (dC, dI) vwCl (wX1 cA g0 r1 r2 r3 r4 r5 ce ((rx_hf w mk).1) we wr nm 0 0 (nI 0) (nI 0) (nI 0) (wia + (nI (((rx_hf w mk).2) + 1)))) H := hP
      have hD : va_D A (wX1 cA g0 r1 r2 r3 r4 r5 ce ((rx_hf w mk).1) we wr nm 0 0 (nI 0) (nI 0) (nI 0) (wia + (nI (((rx_hf w mk).2) + 1)))) := hD
      refine lv_aload_n hx hb dX1_recover_125 rfl (lv_at hl 0 rfl) ?_
      refine va_get (D := (dC, dI)) (ci := 1) (v := .ref r2) (C := RX1) (T := TX1) (N := 11) hx hb hts hin hown hK hP 0 rfl rfl 2 (by decide) (hts (.fieldLink RX1 13 "NestCellsModel" "disk" "[I") (by decide +kernel)) (fun _ h9 => h9) rfl dX1_recover_126 ?_
      refine lv_bipush (v := (nI 32)) hx hb dX1_recover_129 (by decide) ?_
      refine lv_iconst (v := (nI 0)) hx hb dX1_recover_131 (by decide) ?_
      refine kv_iast hx hb hK hP hD hS 2 0 rfl rfl (by omega) (by omega) dX1_recover_132 (fun H locs hP hD hS => ?_)
      have hP : va_P (dC, dI) vwCl (wX1 cA g0 r1 r2 r3 r4 r5 ce (upd ((rx_hf w mk).1) 32 (nI 0)) we wr nm 0 0 (nI 0) (nI 0) (nI 0) (wia + (nI (((rx_hf w mk).2) + 1)))) H := hP
      have hD : va_D A (wX1 cA g0 r1 r2 r3 r4 r5 ce (upd ((rx_hf w mk).1) 32 (nI 0)) we wr nm 0 0 (nI 0) (nI 0) (nI 0) (wia + (nI (((rx_hf w mk).2) + 1)))) := hD
      refine lv_iconst (v := (nI 0)) hx hb dX1_recover_133 (by decide) ?_
      refine lv_istore_n (lv' := [(2, .int (nI 0)), (0, .ref g0), (1, .int (nI ((rx_hf w mk).2)))]) hx hb dX1_recover_134 rfl hl (by decide) rfl (fun ls hl => ?_)
      have hP : va_P (dC, dI) vwCl (wX1 cA g0 r1 r2 r3 r4 r5 (va_cpy (upd ((rx_hf w mk).1) 32 (nI 0)) ce 0 0 0) (upd ((rx_hf w mk).1) 32 (nI 0)) we wr nm 0 0 (nI 0) (nI 0) (nI 0) (wia + (nI (((rx_hf w mk).2) + 1)))) H := by rw [rx_cpy_0]; exact hP
      have hD : va_D A (wX1 cA g0 r1 r2 r3 r4 r5 (va_cpy (upd ((rx_hf w mk).1) 32 (nI 0)) ce 0 0 0) (upd ((rx_hf w mk).1) 32 (nI 0)) we wr nm 0 0 (nI 0) (nI 0) (nI 0) (wia + (nI (((rx_hf w mk).2) + 1)))) := by rw [rx_cpy_0]; exact hD
      have lp : ∀ (k : Nat) (t : Nat), ∀ (_ : t + k = 32), ∀ (H : Heap) (locs : List Loc) (ls : Array Slot), va_P (dC, dI) vwCl (wX1 cA g0 r1 r2 r3 r4 r5 (va_cpy (upd ((rx_hf w mk).1) 32 (nI 0)) ce 0 0 t) (upd ((rx_hf w mk).1) 32 (nI 0)) we wr nm 0 0 (nI 0) (nI 0) (nI 0) (wia + (nI (((rx_hf w mk).2) + 1)))) H → va_D A (wX1 cA g0 r1 r2 r3 r4 r5 (va_cpy (upd ((rx_hf w mk).1) 32 (nI 0)) ce 0 0 t) (upd ((rx_hf w mk).1) 32 (nI 0)) we wr nm 0 0 (nI 0) (nI 0) (nI 0) (wia + (nI (((rx_hf w mk).2) + 1)))) → va_S A s.heap H locs → lv_has ls 4 [(0, .ref g0), (1, .int (nI ((rx_hf w mk).2))), (2, .int (nI t))] → W p l e (headSpec wsX1_recover ({ frames := 1, cells := 0, slots := 0, locals := 20 })).room s m ([.ref g0] : List Value).toArray below meth c H locs 0 0 (MQ below (va_Qi (fun (r' : Int32) (_ : Unit) => r' = (nI ((rx_hf w mk).2))) (kB dC dI [(cA, .int)] (wX1 cA g0 r1 r2 r3 r4 r5 (va_cpy (upd ((rx_hf w mk).1) 32 (nI 0)) ce 0 0 32) (upd ((rx_hf w mk).1) 32 (nI 0)) we wr nm 0 0 (nI 0) (nI 0) (nI 0) (wia + nI ((rx_hf w mk).2 + 1))) A) A) ([.ref g0] : List Value).toArray s 0 0 A) (F0 m 135 ls []) := by
        intro k
        induction k with
        | zero =>
          intro t ht H locs ls hP hD hS hl
          refine lv_iload_n hx hb dX1_recover_135 rfl (lv_at hl 2 rfl) ?_
          refine lv_bipush (v := (nI 32)) hx hb dX1_recover_136 (by decide) ?_
          refine kv_ge (tgt := 159) hx hb (by omega) (by omega) dX1_recover_138 (by decide) (fun h138_0 => ?_) (fun h138_0 => absurd h138_0 (by omega))
          refine lv_iload_n hx hb dX1_recover_159 rfl (lv_at hl 1 rfl) ?_
          exact kMi_ret hx hb hr hlocks hP hK hD hS dX1_recover_160 rfl (by rw [show t = 32 by omega])
        | succ k ih =>
          intro t ht H locs ls hP hD hS hl
          refine lv_iload_n hx hb dX1_recover_135 rfl (lv_at hl 2 rfl) ?_
          refine lv_bipush (v := (nI 32)) hx hb dX1_recover_136 (by decide) ?_
          refine kv_ge (tgt := 159) hx hb (by omega) (by omega) dX1_recover_138 (by decide) (fun h138_0 => absurd h138_0 (by omega)) (fun h138_0 => ?_)
          refine lv_aload_n hx hb dX1_recover_141 rfl (lv_at hl 0 rfl) ?_
          refine va_get (D := (dC, dI)) (ci := 1) (v := .ref r1) (C := RX1) (T := TX1) (N := 11) hx hb hts hin hown hK hP 0 rfl rfl 1 (by decide) (hts (.fieldLink RX1 7 "NestCellsModel" "cells" "[I") (by decide +kernel)) (fun _ h9 => h9) rfl dX1_recover_142 ?_
          refine lv_iload_n hx hb dX1_recover_145 rfl (lv_at hl 2 rfl) ?_
          refine lv_aload_n hx hb dX1_recover_146 rfl (lv_at hl 0 rfl) ?_
          refine va_get (D := (dC, dI)) (ci := 1) (v := .ref r2) (C := RX1) (T := TX1) (N := 11) hx hb hts hin hown hK hP 0 rfl rfl 2 (by decide) (hts (.fieldLink RX1 13 "NestCellsModel" "disk" "[I") (by decide +kernel)) (fun _ h9 => h9) rfl dX1_recover_147 ?_
          refine lv_iload_n hx hb dX1_recover_150 rfl (lv_at hl 2 rfl) ?_
          refine kv_iald hx hb hK hP 2 0 rfl rfl (by omega) (by omega) dX1_recover_151 ?_
          refine kv_iast hx hb hK hP hD hS 1 0 rfl rfl (by omega) (by omega) dX1_recover_152 (fun H locs hP hD hS => ?_)
          have hP : va_P (dC, dI) vwCl (wX1 cA g0 r1 r2 r3 r4 r5 (upd (va_cpy (upd ((rx_hf w mk).1) 32 (nI 0)) ce 0 0 t) t ((upd ((rx_hf w mk).1) 32 (nI 0)) t)) (upd ((rx_hf w mk).1) 32 (nI 0)) we wr nm 0 0 (nI 0) (nI 0) (nI 0) (wia + (nI (((rx_hf w mk).2) + 1)))) H := hP
          have hD : va_D A (wX1 cA g0 r1 r2 r3 r4 r5 (upd (va_cpy (upd ((rx_hf w mk).1) 32 (nI 0)) ce 0 0 t) t ((upd ((rx_hf w mk).1) 32 (nI 0)) t)) (upd ((rx_hf w mk).1) 32 (nI 0)) we wr nm 0 0 (nI 0) (nI 0) (nI 0) (wia + (nI (((rx_hf w mk).2) + 1)))) := hD
          refine lv_iinc (v := (nI (t + 1))) (lv' := [(2, .int (nI (t + 1))), (0, .ref g0), (1, .int (nI ((rx_hf w mk).2)))]) hx hb dX1_recover_153 hl (k := 2) rfl (kv_inc _ 1 (by decide)) (by decide) rfl (fun ls hl => ?_)
          refine lv_goto (tgt := 135) hx hb dX1_recover_156 (by decide) ?_
          have hP : va_P (dC, dI) vwCl (wX1 cA g0 r1 r2 r3 r4 r5 (va_cpy (upd ((rx_hf w mk).1) 32 (nI 0)) ce 0 0 (t + 1)) (upd ((rx_hf w mk).1) 32 (nI 0)) we wr nm 0 0 (nI 0) (nI 0) (nI 0) (wia + (nI (((rx_hf w mk).2) + 1)))) H := by rw [← rx_cpy_s]; exact hP
          have hD : va_D A (wX1 cA g0 r1 r2 r3 r4 r5 (va_cpy (upd ((rx_hf w mk).1) 32 (nI 0)) ce 0 0 (t + 1)) (upd ((rx_hf w mk).1) 32 (nI 0)) we wr nm 0 0 (nI 0) (nI 0) (nI 0) (wia + (nI (((rx_hf w mk).2) + 1)))) := by rw [← rx_cpy_s]; exact hD
          exact ih (t + 1) (by omega) _ _ _ hP hD hS (lv_sub hl [1, 2, 0] rfl)
      exact lp 32 0 (by omega) _ _ _ hP hD hS (lv_sub hl [1, 2, 0] rfl)
    | succ k ih =>
      intro t ht H locs ls hP hD hS hl
      have hkt := rx_hf_le w t
      have hEs : rx_hf w (t + 1) = if kx_isCell ((rx_hf w t).1 (34 + 2 * t)) = 0 then rx_hf w t else (upd (rx_hf w t).1 ((rx_hf w t).1 (34 + 2 * t)).toNatClampNeg ((rx_hf w t).1 (34 + 2 * t + 1)), (rx_hf w t).2 + 1) := rfl
      refine lv_iload_n hx hb dX1_recover_29 rfl (lv_at hl 2 rfl) ?_
      refine lv_aload_n hx hb dX1_recover_30 rfl (lv_at hl 0 rfl) ?_
      refine va_get (D := (dC, dI)) (ci := 1) (v := .ref r2) (C := RX1) (T := TX1) (N := 11) hx hb hts hin hown hK hP 0 rfl rfl 2 (by decide) (hts (.fieldLink RX1 13 "NestCellsModel" "disk" "[I") (by decide +kernel)) (fun _ h9 => h9) rfl dX1_recover_31 ?_
      refine lv_bipush (v := (nI 32)) hx hb dX1_recover_34 (by decide) ?_
      refine kv_iald hx hb hK hP 2 0 rfl rfl (by omega) (by omega) dX1_recover_36 ?_
      refine kv_top (w := .int (nI mk)) (congrArg Value.int ((rx_hf_o w 32 (by omega) t).trans hmk)) ?_
      refine kv_ge (tgt := 99) hx hb (by omega) (by omega) dX1_recover_37 (by decide) (fun h37_0 => absurd h37_0 (by omega)) (fun h37_0 => ?_)
      refine lv_aload_n hx hb dX1_recover_40 rfl (lv_at hl 0 rfl) ?_
      refine va_get (D := (dC, dI)) (ci := 1) (v := .ref r2) (C := RX1) (T := TX1) (N := 11) hx hb hts hin hown hK hP 0 rfl rfl 2 (by decide) (hts (.fieldLink RX1 13 "NestCellsModel" "disk" "[I") (by decide +kernel)) (fun _ h9 => h9) rfl dX1_recover_41 ?_
      refine lv_bipush (v := (nI 32)) hx hb dX1_recover_44 (by decide) ?_
      refine kv_iald hx hb hK hP 2 0 rfl rfl (by omega) (by omega) dX1_recover_46 ?_
      refine kv_top (w := .int (nI mk)) (congrArg Value.int ((rx_hf_o w 32 (by omega) t).trans hmk)) ?_
      refine lv_bipush (v := (nI 32)) hx hb dX1_recover_47 (by decide) ?_
      refine kv_gt (tgt := 99) hx hb (by omega) (by omega) dX1_recover_49 (by decide) (fun h49_0 => absurd h49_0 (by omega)) (fun h49_0 => ?_)
      refine lv_aload_n hx hb dX1_recover_52 rfl (lv_at hl 0 rfl) ?_
      refine va_get (D := (dC, dI)) (ci := 1) (v := .ref r2) (C := RX1) (T := TX1) (N := 11) hx hb hts hin hown hK hP 0 rfl rfl 2 (by decide) (hts (.fieldLink RX1 13 "NestCellsModel" "disk" "[I") (by decide +kernel)) (fun _ h9 => h9) rfl dX1_recover_53 ?_
      refine lv_bipush (v := (nI 34)) hx hb dX1_recover_56 (by decide) ?_
      refine lv_iconst (v := (nI 2)) hx hb dX1_recover_58 (by decide) ?_
      refine lv_iload_n hx hb dX1_recover_59 rfl (lv_at hl 2 rfl) ?_
      refine kv_mul hx hb dX1_recover_60 ?_
      refine kv_addE (d := 34 + (2 * t)) hx hb (by omega) dX1_recover_61 ?_
      refine kv_iald hx hb hK hP 2 0 rfl rfl (by omega) (by omega) dX1_recover_62 ?_
      refine lv_istore_n (lv' := [(3, .int (((rx_hf w t).1) (34 + (2 * t)))), (0, .ref g0), (1, .int (nI ((rx_hf w t).2))), (2, .int (nI t))]) hx hb dX1_recover_63 rfl hl (by decide) rfl (fun ls hl => ?_)
      refine lv_iload_n hx hb dX1_recover_64 rfl (lv_at hl 0 rfl) ?_
      refine kv_Si (Xr := wX1 cA g0 r1 r2 r3 r4 r5 ce ((rx_hf w t).1) we wr nm 0 0 (nI 0) (nI 0) (nI 0) wia) (n := 1) (c_X1_isCell l dC dI   (((rx_hf w t).1) (34 + (2 * t))) ) hx hb hml hown hts gX1_recover_X1_isCell rfl ⟨rfl, rfl⟩ (by decide +kernel) rfl ⟨Nat.le_of_ble_eq_true rfl, Nat.le_of_ble_eq_true rfl⟩ hK hP hD hS hA [] [] [0, 1, 2, 3, 4, 5] rfl rfl rfl (by decide) (by decide) rfl (by decide) hl.1 rfl (Nat.le_of_ble_eq_true rfl) dX1_recover_65 ⟨Nat.zero_le _, Nat.zero_le _⟩ (fun H locs hP hD hS => ?_)
      have hP : va_P (dC, dI) vwCl (wX1 cA g0 r1 r2 r3 r4 r5 ce ((rx_hf w t).1) we wr nm 0 0 (nI 0) (nI 0) (nI 0) wia) H := hP
      have hD : va_D A (wX1 cA g0 r1 r2 r3 r4 r5 ce ((rx_hf w t).1) we wr nm 0 0 (nI 0) (nI 0) (nI 0) wia) := hD
      refine lv_if_eq (tgt := 93) hx hb dX1_recover_68 (by decide) (fun h68_0 => ?_) (fun h68_0 => ?_)
      · skip
        refine lv_iinc (v := (nI (t + 1))) (lv' := [(2, .int (nI (t + 1))), (3, .int (((rx_hf w t).1) (34 + (2 * t)))), (0, .ref g0), (1, .int (nI ((rx_hf w t).2)))]) hx hb dX1_recover_93 hl (k := 3) rfl (kv_inc _ 1 (by decide)) (by decide) rfl (fun ls hl => ?_)
        refine lv_goto (tgt := 29) hx hb dX1_recover_96 (by decide) ?_
        have e1 : rx_hf w (t + 1) = rx_hf w t := by rw [hEs, if_pos h68_0]
        have hP : va_P (dC, dI) vwCl (wX1 cA g0 r1 r2 r3 r4 r5 ce ((rx_hf w (t + 1)).1) we wr nm 0 0 (nI 0) (nI 0) (nI 0) wia) H := by rw [e1]; exact hP
        have hD : va_D A (wX1 cA g0 r1 r2 r3 r4 r5 ce ((rx_hf w (t + 1)).1) we wr nm 0 0 (nI 0) (nI 0) (nI 0) wia) := by rw [e1]; exact hD
        have hl : lv_has ls 4 [(2, .int (nI (t + 1))), (3, .int (((rx_hf w t).1) (34 + (2 * t)))), (0, .ref g0), (1, .int (nI ((rx_hf w (t + 1)).2)))] := by rw [e1]; exact hl
        exact ih (t + 1) (by omega) _ _ _ hP hD hS (lv_sub hl [2, 3, 0] rfl)
      · skip
        obtain ⟨ci, hci, eci⟩ := kx_isCell_of h68_0
        have hl : lv_has ls 4 [(3, .int (nI ci)), (0, .ref g0), (1, .int (nI ((rx_hf w t).2))), (2, .int (nI t))] := by rw [← eci]; exact hl
        refine lv_aload_n hx hb dX1_recover_71 rfl (lv_at hl 1 rfl) ?_
        refine va_get (D := (dC, dI)) (ci := 1) (v := .ref r2) (C := RX1) (T := TX1) (N := 11) hx hb hts hin hown hK hP 0 rfl rfl 2 (by decide) (hts (.fieldLink RX1 13 "NestCellsModel" "disk" "[I") (by decide +kernel)) (fun _ h9 => h9) rfl dX1_recover_72 ?_
        refine lv_iload_n hx hb dX1_recover_75 rfl (lv_at hl 0 rfl) ?_
        refine lv_aload_n hx hb dX1_recover_76 rfl (lv_at hl 1 rfl) ?_
        refine va_get (D := (dC, dI)) (ci := 1) (v := .ref r2) (C := RX1) (T := TX1) (N := 11) hx hb hts hin hown hK hP 0 rfl rfl 2 (by decide) (hts (.fieldLink RX1 13 "NestCellsModel" "disk" "[I") (by decide +kernel)) (fun _ h9 => h9) rfl dX1_recover_77 ?_
        refine lv_bipush (v := (nI 34)) hx hb dX1_recover_80 (by decide) ?_
        refine lv_iconst (v := (nI 2)) hx hb dX1_recover_82 (by decide) ?_
        refine lv_iload_n hx hb dX1_recover_83 rfl (lv_at hl 3 rfl) ?_
        refine kv_mul hx hb dX1_recover_84 ?_
        refine kv_addE (d := 34 + (2 * t)) hx hb (by omega) dX1_recover_85 ?_
        refine lv_iconst (v := (nI 1)) hx hb dX1_recover_86 (by decide) ?_
        refine kv_addE (d := (34 + (2 * t)) + 1) hx hb (by omega) dX1_recover_87 ?_
        refine kv_iald hx hb hK hP 2 0 rfl rfl (by omega) (by omega) dX1_recover_88 ?_
        refine kv_iast hx hb hK hP hD hS 2 0 rfl rfl (by omega) (by omega) dX1_recover_89 (fun H locs hP hD hS => ?_)
        have hP : va_P (dC, dI) vwCl (wX1 cA g0 r1 r2 r3 r4 r5 ce (upd ((rx_hf w t).1) ci (((rx_hf w t).1) ((34 + (2 * t)) + 1))) we wr nm 0 0 (nI 0) (nI 0) (nI 0) wia) H := hP
        have hD : va_D A (wX1 cA g0 r1 r2 r3 r4 r5 ce (upd ((rx_hf w t).1) ci (((rx_hf w t).1) ((34 + (2 * t)) + 1))) we wr nm 0 0 (nI 0) (nI 0) (nI 0) wia) := hD
        refine lv_iinc (v := (nI (((rx_hf w t).2) + 1))) (lv' := [(1, .int (nI (((rx_hf w t).2) + 1))), (3, .int (nI ci)), (0, .ref g0), (2, .int (nI t))]) hx hb dX1_recover_90 hl (k := 2) rfl (kv_inc _ 1 (by decide)) (by decide) rfl (fun ls hl => ?_)
        refine lv_iinc (v := (nI (t + 1))) (lv' := [(2, .int (nI (t + 1))), (1, .int (nI (((rx_hf w t).2) + 1))), (3, .int (nI ci)), (0, .ref g0)]) hx hb dX1_recover_93 hl (k := 3) rfl (kv_inc _ 1 (by decide)) (by decide) rfl (fun ls hl => ?_)
        refine lv_goto (tgt := 29) hx hb dX1_recover_96 (by decide) ?_
        have e1 : rx_hf w (t + 1) = (upd (rx_hf w t).1 ci ((rx_hf w t).1 (34 + 2 * t + 1)), (rx_hf w t).2 + 1) := by rw [hEs, if_neg h68_0, eci, nI_clamp (by omega)]
        have hP : va_P (dC, dI) vwCl (wX1 cA g0 r1 r2 r3 r4 r5 ce ((rx_hf w (t + 1)).1) we wr nm 0 0 (nI 0) (nI 0) (nI 0) wia) H := by rw [e1]; exact hP
        have hD : va_D A (wX1 cA g0 r1 r2 r3 r4 r5 ce ((rx_hf w (t + 1)).1) we wr nm 0 0 (nI 0) (nI 0) (nI 0) wia) := by rw [e1]; exact hD
        have hl : lv_has ls 4 [(2, .int (nI (t + 1))), (1, .int (nI ((rx_hf w (t + 1)).2))), (3, .int (nI ci)), (0, .ref g0)] := by rw [e1]; exact hl
        exact ih (t + 1) (by omega) _ _ _ hP hD hS (lv_sub hl [3, 1, 0] rfl)
  exact lp mk 0 (by omega) _ _ _ hP hD hS (lv_sub hl [2, 1, 0] rfl)
theorem rx_not0 {x : Int32} (h : nI 0 < x) (h2 : ¬ nI 32 < x) : ¬ (x < nI 1 ∨ nI 32 < x) := by
  rintro (q | q)
  · exact absurd (rx_lt1 q) (fun r => by rw [Int32.lt_iff_toInt_lt] at h; rw [Int32.le_iff_toInt_le] at r; omega)
  · exact h2 q
set_option maxHeartbeats 4000000 in
set_option maxRecDepth 100000 in
/-- NestCellsModel.recover_b  -/
theorem c_X1_recover_b (l : Launch) (dC : Nat → ClassId) (dI : Nat → Nat → Nat) (cA : ClassId) (g0 r1 r2 r3 r4 r5 : Nat) (ce w we wr nm : Nat → Int32) (n T : Nat) (cd off told wia : Int32)  (hb9 : w 32 < nI 1 ∨ nI 32 < w 32) (h0k : ¬ w 32 = 0) : kMi l yX1_recover wsX1_recover ({ frames := 1, cells := 0, slots := 0, locals := 20 }) dC dI [(cA, .int)] (wX1 cA g0 r1 r2 r3 r4 r5 ce w we wr nm n T cd off told wia) [.ref g0] (nI 0) (wX1 cA g0 r1 r2 r3 r4 r5 (va_cpy (upd w 32 (nI 0)) ce 0 0 32) (upd w 32 (nI 0)) we wr nm 0 0 (nI 0) (nI 0) (nI 0) (wia + nI (0 + 1))) := by
  refine kMi_of (cc := cX1_recover) (maxL := 4) (ret := (some .int)) (by decide) rfl (Nat.le_of_ble_eq_true rfl) ?_
  intro p e s m below meth c A ls hx hb hml hr hts hown hlocks hA hP hK hD hS hl
  have hin : ∀ w ∈ u_ws RX1 TX1 11, w ∈ wsX1_recover := by decide +kernel
  have hl : lv_has ls 4 [(0, .ref g0)] := hl
  refine lv_aload_n hx hb dX1_recover_0 rfl (lv_at hl 0 rfl) ?_
  refine lv_iconst (v := (nI 0)) hx hb dX1_recover_1 (by decide) ?_
  refine va_put (D := (dC, dI)) (ci := 1) (v := .int (nI 0)) (ty := .int) (C := RX1) (T := TX1) (N := 11) hx hb hts hin tyX1 tyX1_ok nmX1 hown hK hP hD hS 0 rfl rfl 0 (by decide) (hts (.fieldLink RX1 25 "NestCellsModel" "code" "I") (by decide +kernel)) (fun _ h9 => h9) rfl (by decide +kernel) rfl rfl (Nat.le_of_ble_eq_true rfl) dX1_recover_2 (fun H locs hP hD hS => ?_)
  have hP : va_P (dC, dI) vwCl (wX1 cA g0 r1 r2 r3 r4 r5 ce w we wr nm n T (nI 0) off told wia) H := hP
  have hD : va_D A (wX1 cA g0 r1 r2 r3 r4 r5 ce w we wr nm n T (nI 0) off told wia) := hD
  refine lv_aload_n hx hb dX1_recover_5 rfl (lv_at hl 0 rfl) ?_
  refine lv_iconst (v := (nI 0)) hx hb dX1_recover_6 (by decide) ?_
  refine va_put (D := (dC, dI)) (ci := 1) (v := .int (nI 0)) (ty := .int) (C := RX1) (T := TX1) (N := 11) hx hb hts hin tyX1 tyX1_ok nmX1 hown hK hP hD hS 0 rfl rfl 9 (by decide) (hts (.fieldLink RX1 43 "NestCellsModel" "told" "I") (by decide +kernel)) (fun _ h9 => h9) rfl (by decide +kernel) rfl rfl (Nat.le_of_ble_eq_true rfl) dX1_recover_7 (fun H locs hP hD hS => ?_)
  have hP : va_P (dC, dI) vwCl (wX1 cA g0 r1 r2 r3 r4 r5 ce w we wr nm n T (nI 0) off (nI 0) wia) H := hP
  have hD : va_D A (wX1 cA g0 r1 r2 r3 r4 r5 ce w we wr nm n T (nI 0) off (nI 0) wia) := hD
  refine lv_aload_n hx hb dX1_recover_10 rfl (lv_at hl 0 rfl) ?_
  refine lv_iconst (v := (nI 0)) hx hb dX1_recover_11 (by decide) ?_
  refine va_put (D := (dC, dI)) (ci := 1) (v := .int (nI 0)) (ty := .boolean) (C := RX1) (T := TX1) (N := 11) hx hb hts hin tyX1 tyX1_ok nmX1 hown hK hP hD hS 0 rfl rfl 8 (by decide) (hts (.fieldLink RX1 39 "NestCellsModel" "off" "Z") (by decide +kernel)) (fun _ h9 => h9) rfl (by decide +kernel) rfl rfl (Nat.le_of_ble_eq_true rfl) dX1_recover_12 (fun H locs hP hD hS => ?_)
  have hP : va_P (dC, dI) vwCl (wX1 cA g0 r1 r2 r3 r4 r5 ce w we wr nm n T (nI 0) (nI 0) (nI 0) wia) H := hP
  have hD : va_D A (wX1 cA g0 r1 r2 r3 r4 r5 ce w we wr nm n T (nI 0) (nI 0) (nI 0) wia) := hD
  refine lv_aload_n hx hb dX1_recover_15 rfl (lv_at hl 0 rfl) ?_
  refine lv_iconst (v := (nI 0)) hx hb dX1_recover_16 (by decide) ?_
  refine va_put (D := (dC, dI)) (ci := 1) (v := .int (nI 0)) (ty := .int) (C := RX1) (T := TX1) (N := 11) hx hb hts hin tyX1 tyX1_ok nmX1 hown hK hP hD hS 0 rfl rfl 6 (by decide) (hts (.fieldLink RX1 29 "NestCellsModel" "levels" "I") (by decide +kernel)) (fun _ h9 => h9) rfl (by decide +kernel) rfl rfl (Nat.le_of_ble_eq_true rfl) dX1_recover_17 (fun H locs hP hD hS => ?_)
  have hP : va_P (dC, dI) vwCl (wX1 cA g0 r1 r2 r3 r4 r5 ce w we wr nm 0 T (nI 0) (nI 0) (nI 0) wia) H := hP
  have hD : va_D A (wX1 cA g0 r1 r2 r3 r4 r5 ce w we wr nm 0 T (nI 0) (nI 0) (nI 0) wia) := hD
  refine lv_aload_n hx hb dX1_recover_20 rfl (lv_at hl 0 rfl) ?_
  refine lv_iconst (v := (nI 0)) hx hb dX1_recover_21 (by decide) ?_
  refine va_put (D := (dC, dI)) (ci := 1) (v := .int (nI 0)) (ty := .int) (C := RX1) (T := TX1) (N := 11) hx hb hts hin tyX1 tyX1_ok nmX1 hown hK hP hD hS 0 rfl rfl 7 (by decide) (hts (.fieldLink RX1 36 "NestCellsModel" "transactions" "I") (by decide +kernel)) (fun _ h9 => h9) rfl (by decide +kernel) rfl rfl (Nat.le_of_ble_eq_true rfl) dX1_recover_22 (fun H locs hP hD hS => ?_)
  have hP : va_P (dC, dI) vwCl (wX1 cA g0 r1 r2 r3 r4 r5 ce w we wr nm 0 0 (nI 0) (nI 0) (nI 0) wia) H := hP
  have hD : va_D A (wX1 cA g0 r1 r2 r3 r4 r5 ce w we wr nm 0 0 (nI 0) (nI 0) (nI 0) wia) := hD
  refine lv_iconst (v := (nI 0)) hx hb dX1_recover_25 (by decide) ?_
  refine lv_istore_n (lv' := [(1, .int (nI 0)), (0, .ref g0)]) hx hb dX1_recover_26 rfl hl (by decide) rfl (fun ls hl => ?_)
  refine lv_iconst (v := (nI 0)) hx hb dX1_recover_27 (by decide) ?_
  refine lv_istore_n (lv' := [(2, .int (nI 0)), (1, .int (nI 0)), (0, .ref g0)]) hx hb dX1_recover_28 rfl hl (by decide) rfl (fun ls hl => ?_)
  refine lv_iload_n hx hb dX1_recover_29 rfl (lv_at hl 0 rfl) ?_
  refine lv_aload_n hx hb dX1_recover_30 rfl (lv_at hl 2 rfl) ?_
  refine va_get (D := (dC, dI)) (ci := 1) (v := .ref r2) (C := RX1) (T := TX1) (N := 11) hx hb hts hin hown hK hP 0 rfl rfl 2 (by decide) (hts (.fieldLink RX1 13 "NestCellsModel" "disk" "[I") (by decide +kernel)) (fun _ h9 => h9) rfl dX1_recover_31 ?_
  refine lv_bipush (v := (nI 32)) hx hb dX1_recover_34 (by decide) ?_
  refine kv_iald hx hb hK hP 2 0 rfl rfl (by omega) (by omega) dX1_recover_36 ?_
  refine lv_icmp_ge (tgt := 99) hx hb dX1_recover_37 (by decide) (fun h37_0 => ?_) (fun h37_0 => ?_)
  · skip
    refine lv_aload_n hx hb dX1_recover_99 rfl (lv_at hl 2 rfl) ?_
    refine lv_dup hx hb dX1_recover_100 rfl ?_
    refine va_get (D := (dC, dI)) (ci := 1) (v := .int wia) (C := RX1) (T := TX1) (N := 11) hx hb hts hin hown hK hP 0 rfl rfl 10 (by decide) (hts (.fieldLink RX1 46 "NestCellsModel" "writes" "I") (by decide +kernel)) (fun _ h9 => h9) rfl dX1_recover_101 ?_
    refine lv_iload_n hx hb dX1_recover_104 rfl (lv_at hl 1 rfl) ?_
    refine lv_aload_n hx hb dX1_recover_105 rfl (lv_at hl 2 rfl) ?_
    refine va_get (D := (dC, dI)) (ci := 1) (v := .ref r2) (C := RX1) (T := TX1) (N := 11) hx hb hts hin hown hK hP 0 rfl rfl 2 (by decide) (hts (.fieldLink RX1 13 "NestCellsModel" "disk" "[I") (by decide +kernel)) (fun _ h9 => h9) rfl dX1_recover_106 ?_
    refine lv_bipush (v := (nI 32)) hx hb dX1_recover_109 (by decide) ?_
    refine kv_iald hx hb hK hP 2 0 rfl rfl (by omega) (by omega) dX1_recover_111 ?_
    refine lv_if_ne (tgt := 119) hx hb dX1_recover_112 (by decide) (fun h112_1 => ?_) (fun h112_1 => absurd h112_1 h0k)
    refine lv_iconst (v := (nI 1)) hx hb dX1_recover_119 (by decide) ?_
    refine kv_addE (d := 1) hx hb (by omega) dX1_recover_120 ?_
    refine lv_iadd hx hb dX1_recover_121 ?_
    refine va_put (D := (dC, dI)) (ci := 1) (v := .int (wia + (nI 1))) (ty := .int) (C := RX1) (T := TX1) (N := 11) hx hb hts hin tyX1 tyX1_ok nmX1 hown hK hP hD hS 0 rfl rfl 10 (by decide) (hts (.fieldLink RX1 46 "NestCellsModel" "writes" "I") (by decide +kernel)) (fun _ h9 => h9) rfl (by decide +kernel) rfl rfl (Nat.le_of_ble_eq_true rfl) dX1_recover_122 (fun H locs hP hD hS => ?_)
    have hP : va_P (dC, dI) vwCl (wX1 cA g0 r1 r2 r3 r4 r5 ce w we wr nm 0 0 (nI 0) (nI 0) (nI 0) (wia + (nI 1))) H := hP
    have hD : va_D A (wX1 cA g0 r1 r2 r3 r4 r5 ce w we wr nm 0 0 (nI 0) (nI 0) (nI 0) (wia + (nI 1))) := hD
    refine lv_aload_n hx hb dX1_recover_125 rfl (lv_at hl 2 rfl) ?_
    refine va_get (D := (dC, dI)) (ci := 1) (v := .ref r2) (C := RX1) (T := TX1) (N := 11) hx hb hts hin hown hK hP 0 rfl rfl 2 (by decide) (hts (.fieldLink RX1 13 "NestCellsModel" "disk" "[I") (by decide +kernel)) (fun _ h9 => h9) rfl dX1_recover_126 ?_
    refine lv_bipush (v := (nI 32)) hx hb dX1_recover_129 (by decide) ?_
    refine lv_iconst (v := (nI 0)) hx hb dX1_recover_131 (by decide) ?_
    refine kv_iast hx hb hK hP hD hS 2 0 rfl rfl (by omega) (by omega) dX1_recover_132 (fun H locs hP hD hS => ?_)
    have hP : va_P (dC, dI) vwCl (wX1 cA g0 r1 r2 r3 r4 r5 ce (upd w 32 (nI 0)) we wr nm 0 0 (nI 0) (nI 0) (nI 0) (wia + (nI 1))) H := hP
    have hD : va_D A (wX1 cA g0 r1 r2 r3 r4 r5 ce (upd w 32 (nI 0)) we wr nm 0 0 (nI 0) (nI 0) (nI 0) (wia + (nI 1))) := hD
    refine lv_iconst (v := (nI 0)) hx hb dX1_recover_133 (by decide) ?_
    refine lv_istore_n (lv' := [(2, .int (nI 0)), (1, .int (nI 0)), (0, .ref g0)]) hx hb dX1_recover_134 rfl hl (by decide) rfl (fun ls hl => ?_)
    have hP : va_P (dC, dI) vwCl (wX1 cA g0 r1 r2 r3 r4 r5 (va_cpy (upd w 32 (nI 0)) ce 0 0 0) (upd w 32 (nI 0)) we wr nm 0 0 (nI 0) (nI 0) (nI 0) (wia + (nI 1))) H := by rw [rx_cpy_0]; exact hP
    have hD : va_D A (wX1 cA g0 r1 r2 r3 r4 r5 (va_cpy (upd w 32 (nI 0)) ce 0 0 0) (upd w 32 (nI 0)) we wr nm 0 0 (nI 0) (nI 0) (nI 0) (wia + (nI 1))) := by rw [rx_cpy_0]; exact hD
    have lp : ∀ (k : Nat) (t : Nat), ∀ (_ : t + k = 32), ∀ (H : Heap) (locs : List Loc) (ls : Array Slot), va_P (dC, dI) vwCl (wX1 cA g0 r1 r2 r3 r4 r5 (va_cpy (upd w 32 (nI 0)) ce 0 0 t) (upd w 32 (nI 0)) we wr nm 0 0 (nI 0) (nI 0) (nI 0) (wia + (nI 1))) H → va_D A (wX1 cA g0 r1 r2 r3 r4 r5 (va_cpy (upd w 32 (nI 0)) ce 0 0 t) (upd w 32 (nI 0)) we wr nm 0 0 (nI 0) (nI 0) (nI 0) (wia + (nI 1))) → va_S A s.heap H locs → lv_has ls 4 [(0, .ref g0), (1, .int (nI 0)), (2, .int (nI t))] → W p l e (headSpec wsX1_recover ({ frames := 1, cells := 0, slots := 0, locals := 20 })).room s m ([.ref g0] : List Value).toArray below meth c H locs 0 0 (MQ below (va_Qi (fun (r' : Int32) (_ : Unit) => r' = (nI 0)) (kB dC dI [(cA, .int)] (wX1 cA g0 r1 r2 r3 r4 r5 (va_cpy (upd w 32 (nI 0)) ce 0 0 32) (upd w 32 (nI 0)) we wr nm 0 0 (nI 0) (nI 0) (nI 0) (wia + nI (0 + 1))) A) A) ([.ref g0] : List Value).toArray s 0 0 A) (F0 m 135 ls []) := by
      intro k
      induction k with
      | zero =>
        intro t ht H locs ls hP hD hS hl
        refine lv_iload_n hx hb dX1_recover_135 rfl (lv_at hl 2 rfl) ?_
        refine lv_bipush (v := (nI 32)) hx hb dX1_recover_136 (by decide) ?_
        refine kv_ge (tgt := 159) hx hb (by omega) (by omega) dX1_recover_138 (by decide) (fun h138_1 => ?_) (fun h138_1 => absurd h138_1 (by omega))
        refine lv_iload_n hx hb dX1_recover_159 rfl (lv_at hl 1 rfl) ?_
        exact kMi_ret hx hb hr hlocks hP hK hD hS dX1_recover_160 rfl (by rw [show t = 32 by omega])
      | succ k ih =>
        intro t ht H locs ls hP hD hS hl
        refine lv_iload_n hx hb dX1_recover_135 rfl (lv_at hl 2 rfl) ?_
        refine lv_bipush (v := (nI 32)) hx hb dX1_recover_136 (by decide) ?_
        refine kv_ge (tgt := 159) hx hb (by omega) (by omega) dX1_recover_138 (by decide) (fun h138_1 => absurd h138_1 (by omega)) (fun h138_1 => ?_)
        refine lv_aload_n hx hb dX1_recover_141 rfl (lv_at hl 0 rfl) ?_
        refine va_get (D := (dC, dI)) (ci := 1) (v := .ref r1) (C := RX1) (T := TX1) (N := 11) hx hb hts hin hown hK hP 0 rfl rfl 1 (by decide) (hts (.fieldLink RX1 7 "NestCellsModel" "cells" "[I") (by decide +kernel)) (fun _ h9 => h9) rfl dX1_recover_142 ?_
        refine lv_iload_n hx hb dX1_recover_145 rfl (lv_at hl 2 rfl) ?_
        refine lv_aload_n hx hb dX1_recover_146 rfl (lv_at hl 0 rfl) ?_
        refine va_get (D := (dC, dI)) (ci := 1) (v := .ref r2) (C := RX1) (T := TX1) (N := 11) hx hb hts hin hown hK hP 0 rfl rfl 2 (by decide) (hts (.fieldLink RX1 13 "NestCellsModel" "disk" "[I") (by decide +kernel)) (fun _ h9 => h9) rfl dX1_recover_147 ?_
        refine lv_iload_n hx hb dX1_recover_150 rfl (lv_at hl 2 rfl) ?_
        refine kv_iald hx hb hK hP 2 0 rfl rfl (by omega) (by omega) dX1_recover_151 ?_
        refine kv_iast hx hb hK hP hD hS 1 0 rfl rfl (by omega) (by omega) dX1_recover_152 (fun H locs hP hD hS => ?_)
        have hP : va_P (dC, dI) vwCl (wX1 cA g0 r1 r2 r3 r4 r5 (upd (va_cpy (upd w 32 (nI 0)) ce 0 0 t) t ((upd w 32 (nI 0)) t)) (upd w 32 (nI 0)) we wr nm 0 0 (nI 0) (nI 0) (nI 0) (wia + (nI 1))) H := hP
        have hD : va_D A (wX1 cA g0 r1 r2 r3 r4 r5 (upd (va_cpy (upd w 32 (nI 0)) ce 0 0 t) t ((upd w 32 (nI 0)) t)) (upd w 32 (nI 0)) we wr nm 0 0 (nI 0) (nI 0) (nI 0) (wia + (nI 1))) := hD
        refine lv_iinc (v := (nI (t + 1))) (lv' := [(2, .int (nI (t + 1))), (0, .ref g0), (1, .int (nI 0))]) hx hb dX1_recover_153 hl (k := 2) rfl (kv_inc _ 1 (by decide)) (by decide) rfl (fun ls hl => ?_)
        refine lv_goto (tgt := 135) hx hb dX1_recover_156 (by decide) ?_
        have hP : va_P (dC, dI) vwCl (wX1 cA g0 r1 r2 r3 r4 r5 (va_cpy (upd w 32 (nI 0)) ce 0 0 (t + 1)) (upd w 32 (nI 0)) we wr nm 0 0 (nI 0) (nI 0) (nI 0) (wia + (nI 1))) H := by rw [← rx_cpy_s]; exact hP
        have hD : va_D A (wX1 cA g0 r1 r2 r3 r4 r5 (va_cpy (upd w 32 (nI 0)) ce 0 0 (t + 1)) (upd w 32 (nI 0)) we wr nm 0 0 (nI 0) (nI 0) (nI 0) (wia + (nI 1))) := by rw [← rx_cpy_s]; exact hD
        exact ih (t + 1) (by omega) _ _ _ hP hD hS (lv_sub hl [1, 2, 0] rfl)
    exact lp 32 0 (by omega) _ _ _ hP hD hS (lv_sub hl [2, 1, 0] rfl)
  · skip
    refine lv_aload_n hx hb dX1_recover_40 rfl (lv_at hl 2 rfl) ?_
    refine va_get (D := (dC, dI)) (ci := 1) (v := .ref r2) (C := RX1) (T := TX1) (N := 11) hx hb hts hin hown hK hP 0 rfl rfl 2 (by decide) (hts (.fieldLink RX1 13 "NestCellsModel" "disk" "[I") (by decide +kernel)) (fun _ h9 => h9) rfl dX1_recover_41 ?_
    refine lv_bipush (v := (nI 32)) hx hb dX1_recover_44 (by decide) ?_
    refine kv_iald hx hb hK hP 2 0 rfl rfl (by omega) (by omega) dX1_recover_46 ?_
    refine lv_bipush (v := (nI 32)) hx hb dX1_recover_47 (by decide) ?_
    refine lv_icmp_gt (tgt := 99) hx hb dX1_recover_49 (by decide) (fun h49_1 => ?_) (fun h49_1 => (((hb9.elim (fun q => rx_not0 (Int32.not_le.mp h37_0) h49_1 (Or.inl q)) h49_1)) : False).elim)
    refine lv_aload_n hx hb dX1_recover_99 rfl (lv_at hl 2 rfl) ?_
    refine lv_dup hx hb dX1_recover_100 rfl ?_
    refine va_get (D := (dC, dI)) (ci := 1) (v := .int wia) (C := RX1) (T := TX1) (N := 11) hx hb hts hin hown hK hP 0 rfl rfl 10 (by decide) (hts (.fieldLink RX1 46 "NestCellsModel" "writes" "I") (by decide +kernel)) (fun _ h9 => h9) rfl dX1_recover_101 ?_
    refine lv_iload_n hx hb dX1_recover_104 rfl (lv_at hl 1 rfl) ?_
    refine lv_aload_n hx hb dX1_recover_105 rfl (lv_at hl 2 rfl) ?_
    refine va_get (D := (dC, dI)) (ci := 1) (v := .ref r2) (C := RX1) (T := TX1) (N := 11) hx hb hts hin hown hK hP 0 rfl rfl 2 (by decide) (hts (.fieldLink RX1 13 "NestCellsModel" "disk" "[I") (by decide +kernel)) (fun _ h9 => h9) rfl dX1_recover_106 ?_
    refine lv_bipush (v := (nI 32)) hx hb dX1_recover_109 (by decide) ?_
    refine kv_iald hx hb hK hP 2 0 rfl rfl (by omega) (by omega) dX1_recover_111 ?_
    refine lv_if_ne (tgt := 119) hx hb dX1_recover_112 (by decide) (fun h112_1 => ?_) (fun h112_1 => absurd h112_1 h0k)
    refine lv_iconst (v := (nI 1)) hx hb dX1_recover_119 (by decide) ?_
    refine kv_addE (d := 1) hx hb (by omega) dX1_recover_120 ?_
    refine lv_iadd hx hb dX1_recover_121 ?_
    refine va_put (D := (dC, dI)) (ci := 1) (v := .int (wia + (nI 1))) (ty := .int) (C := RX1) (T := TX1) (N := 11) hx hb hts hin tyX1 tyX1_ok nmX1 hown hK hP hD hS 0 rfl rfl 10 (by decide) (hts (.fieldLink RX1 46 "NestCellsModel" "writes" "I") (by decide +kernel)) (fun _ h9 => h9) rfl (by decide +kernel) rfl rfl (Nat.le_of_ble_eq_true rfl) dX1_recover_122 (fun H locs hP hD hS => ?_)
    have hP : va_P (dC, dI) vwCl (wX1 cA g0 r1 r2 r3 r4 r5 ce w we wr nm 0 0 (nI 0) (nI 0) (nI 0) (wia + (nI 1))) H := hP
    have hD : va_D A (wX1 cA g0 r1 r2 r3 r4 r5 ce w we wr nm 0 0 (nI 0) (nI 0) (nI 0) (wia + (nI 1))) := hD
    refine lv_aload_n hx hb dX1_recover_125 rfl (lv_at hl 2 rfl) ?_
    refine va_get (D := (dC, dI)) (ci := 1) (v := .ref r2) (C := RX1) (T := TX1) (N := 11) hx hb hts hin hown hK hP 0 rfl rfl 2 (by decide) (hts (.fieldLink RX1 13 "NestCellsModel" "disk" "[I") (by decide +kernel)) (fun _ h9 => h9) rfl dX1_recover_126 ?_
    refine lv_bipush (v := (nI 32)) hx hb dX1_recover_129 (by decide) ?_
    refine lv_iconst (v := (nI 0)) hx hb dX1_recover_131 (by decide) ?_
    refine kv_iast hx hb hK hP hD hS 2 0 rfl rfl (by omega) (by omega) dX1_recover_132 (fun H locs hP hD hS => ?_)
    have hP : va_P (dC, dI) vwCl (wX1 cA g0 r1 r2 r3 r4 r5 ce (upd w 32 (nI 0)) we wr nm 0 0 (nI 0) (nI 0) (nI 0) (wia + (nI 1))) H := hP
    have hD : va_D A (wX1 cA g0 r1 r2 r3 r4 r5 ce (upd w 32 (nI 0)) we wr nm 0 0 (nI 0) (nI 0) (nI 0) (wia + (nI 1))) := hD
    refine lv_iconst (v := (nI 0)) hx hb dX1_recover_133 (by decide) ?_
    refine lv_istore_n (lv' := [(2, .int (nI 0)), (1, .int (nI 0)), (0, .ref g0)]) hx hb dX1_recover_134 rfl hl (by decide) rfl (fun ls hl => ?_)
    have hP : va_P (dC, dI) vwCl (wX1 cA g0 r1 r2 r3 r4 r5 (va_cpy (upd w 32 (nI 0)) ce 0 0 0) (upd w 32 (nI 0)) we wr nm 0 0 (nI 0) (nI 0) (nI 0) (wia + (nI 1))) H := by rw [rx_cpy_0]; exact hP
    have hD : va_D A (wX1 cA g0 r1 r2 r3 r4 r5 (va_cpy (upd w 32 (nI 0)) ce 0 0 0) (upd w 32 (nI 0)) we wr nm 0 0 (nI 0) (nI 0) (nI 0) (wia + (nI 1))) := by rw [rx_cpy_0]; exact hD
    have lp : ∀ (k : Nat) (t : Nat), ∀ (_ : t + k = 32), ∀ (H : Heap) (locs : List Loc) (ls : Array Slot), va_P (dC, dI) vwCl (wX1 cA g0 r1 r2 r3 r4 r5 (va_cpy (upd w 32 (nI 0)) ce 0 0 t) (upd w 32 (nI 0)) we wr nm 0 0 (nI 0) (nI 0) (nI 0) (wia + (nI 1))) H → va_D A (wX1 cA g0 r1 r2 r3 r4 r5 (va_cpy (upd w 32 (nI 0)) ce 0 0 t) (upd w 32 (nI 0)) we wr nm 0 0 (nI 0) (nI 0) (nI 0) (wia + (nI 1))) → va_S A s.heap H locs → lv_has ls 4 [(0, .ref g0), (1, .int (nI 0)), (2, .int (nI t))] → W p l e (headSpec wsX1_recover ({ frames := 1, cells := 0, slots := 0, locals := 20 })).room s m ([.ref g0] : List Value).toArray below meth c H locs 0 0 (MQ below (va_Qi (fun (r' : Int32) (_ : Unit) => r' = (nI 0)) (kB dC dI [(cA, .int)] (wX1 cA g0 r1 r2 r3 r4 r5 (va_cpy (upd w 32 (nI 0)) ce 0 0 32) (upd w 32 (nI 0)) we wr nm 0 0 (nI 0) (nI 0) (nI 0) (wia + nI (0 + 1))) A) A) ([.ref g0] : List Value).toArray s 0 0 A) (F0 m 135 ls []) := by
      intro k
      induction k with
      | zero =>
        intro t ht H locs ls hP hD hS hl
        refine lv_iload_n hx hb dX1_recover_135 rfl (lv_at hl 2 rfl) ?_
        refine lv_bipush (v := (nI 32)) hx hb dX1_recover_136 (by decide) ?_
        refine kv_ge (tgt := 159) hx hb (by omega) (by omega) dX1_recover_138 (by decide) (fun h138_1 => ?_) (fun h138_1 => absurd h138_1 (by omega))
        refine lv_iload_n hx hb dX1_recover_159 rfl (lv_at hl 1 rfl) ?_
        exact kMi_ret hx hb hr hlocks hP hK hD hS dX1_recover_160 rfl (by rw [show t = 32 by omega])
      | succ k ih =>
        intro t ht H locs ls hP hD hS hl
        refine lv_iload_n hx hb dX1_recover_135 rfl (lv_at hl 2 rfl) ?_
        refine lv_bipush (v := (nI 32)) hx hb dX1_recover_136 (by decide) ?_
        refine kv_ge (tgt := 159) hx hb (by omega) (by omega) dX1_recover_138 (by decide) (fun h138_1 => absurd h138_1 (by omega)) (fun h138_1 => ?_)
        refine lv_aload_n hx hb dX1_recover_141 rfl (lv_at hl 0 rfl) ?_
        refine va_get (D := (dC, dI)) (ci := 1) (v := .ref r1) (C := RX1) (T := TX1) (N := 11) hx hb hts hin hown hK hP 0 rfl rfl 1 (by decide) (hts (.fieldLink RX1 7 "NestCellsModel" "cells" "[I") (by decide +kernel)) (fun _ h9 => h9) rfl dX1_recover_142 ?_
        refine lv_iload_n hx hb dX1_recover_145 rfl (lv_at hl 2 rfl) ?_
        refine lv_aload_n hx hb dX1_recover_146 rfl (lv_at hl 0 rfl) ?_
        refine va_get (D := (dC, dI)) (ci := 1) (v := .ref r2) (C := RX1) (T := TX1) (N := 11) hx hb hts hin hown hK hP 0 rfl rfl 2 (by decide) (hts (.fieldLink RX1 13 "NestCellsModel" "disk" "[I") (by decide +kernel)) (fun _ h9 => h9) rfl dX1_recover_147 ?_
        refine lv_iload_n hx hb dX1_recover_150 rfl (lv_at hl 2 rfl) ?_
        refine kv_iald hx hb hK hP 2 0 rfl rfl (by omega) (by omega) dX1_recover_151 ?_
        refine kv_iast hx hb hK hP hD hS 1 0 rfl rfl (by omega) (by omega) dX1_recover_152 (fun H locs hP hD hS => ?_)
        have hP : va_P (dC, dI) vwCl (wX1 cA g0 r1 r2 r3 r4 r5 (upd (va_cpy (upd w 32 (nI 0)) ce 0 0 t) t ((upd w 32 (nI 0)) t)) (upd w 32 (nI 0)) we wr nm 0 0 (nI 0) (nI 0) (nI 0) (wia + (nI 1))) H := hP
        have hD : va_D A (wX1 cA g0 r1 r2 r3 r4 r5 (upd (va_cpy (upd w 32 (nI 0)) ce 0 0 t) t ((upd w 32 (nI 0)) t)) (upd w 32 (nI 0)) we wr nm 0 0 (nI 0) (nI 0) (nI 0) (wia + (nI 1))) := hD
        refine lv_iinc (v := (nI (t + 1))) (lv' := [(2, .int (nI (t + 1))), (0, .ref g0), (1, .int (nI 0))]) hx hb dX1_recover_153 hl (k := 2) rfl (kv_inc _ 1 (by decide)) (by decide) rfl (fun ls hl => ?_)
        refine lv_goto (tgt := 135) hx hb dX1_recover_156 (by decide) ?_
        have hP : va_P (dC, dI) vwCl (wX1 cA g0 r1 r2 r3 r4 r5 (va_cpy (upd w 32 (nI 0)) ce 0 0 (t + 1)) (upd w 32 (nI 0)) we wr nm 0 0 (nI 0) (nI 0) (nI 0) (wia + (nI 1))) H := by rw [← rx_cpy_s]; exact hP
        have hD : va_D A (wX1 cA g0 r1 r2 r3 r4 r5 (va_cpy (upd w 32 (nI 0)) ce 0 0 (t + 1)) (upd w 32 (nI 0)) we wr nm 0 0 (nI 0) (nI 0) (nI 0) (wia + (nI 1))) := by rw [← rx_cpy_s]; exact hD
        exact ih (t + 1) (by omega) _ _ _ hP hD hS (lv_sub hl [1, 2, 0] rfl)
    exact lp 32 0 (by omega) _ _ _ hP hD hS (lv_sub hl [2, 1, 0] rfl)
set_option maxHeartbeats 4000000 in
set_option maxRecDepth 100000 in
/-- NestCellsModel.recover_c  -/
theorem c_X1_recover_c (l : Launch) (dC : Nat → ClassId) (dI : Nat → Nat → Nat) (cA : ClassId) (g0 r1 r2 r3 r4 r5 : Nat) (ce w we wr nm : Nat → Int32) (n T : Nat) (cd off told wia : Int32)  (h0k : w 32 = 0) : kMi l yX1_recover wsX1_recover ({ frames := 1, cells := 0, slots := 0, locals := 20 }) dC dI [(cA, .int)] (wX1 cA g0 r1 r2 r3 r4 r5 ce w we wr nm n T cd off told wia) [.ref g0] (nI 0) (wX1 cA g0 r1 r2 r3 r4 r5 (va_cpy (upd w 32 (nI 0)) ce 0 0 32) (upd w 32 (nI 0)) we wr nm 0 0 (nI 0) (nI 0) (nI 0) (wia + nI 0)) := by
  refine kMi_of (cc := cX1_recover) (maxL := 4) (ret := (some .int)) (by decide) rfl (Nat.le_of_ble_eq_true rfl) ?_
  intro p e s m below meth c A ls hx hb hml hr hts hown hlocks hA hP hK hD hS hl
  have hin : ∀ w ∈ u_ws RX1 TX1 11, w ∈ wsX1_recover := by decide +kernel
  have hl : lv_has ls 4 [(0, .ref g0)] := hl
  refine lv_aload_n hx hb dX1_recover_0 rfl (lv_at hl 0 rfl) ?_
  refine lv_iconst (v := (nI 0)) hx hb dX1_recover_1 (by decide) ?_
  refine va_put (D := (dC, dI)) (ci := 1) (v := .int (nI 0)) (ty := .int) (C := RX1) (T := TX1) (N := 11) hx hb hts hin tyX1 tyX1_ok nmX1 hown hK hP hD hS 0 rfl rfl 0 (by decide) (hts (.fieldLink RX1 25 "NestCellsModel" "code" "I") (by decide +kernel)) (fun _ h9 => h9) rfl (by decide +kernel) rfl rfl (Nat.le_of_ble_eq_true rfl) dX1_recover_2 (fun H locs hP hD hS => ?_)
  have hP : va_P (dC, dI) vwCl (wX1 cA g0 r1 r2 r3 r4 r5 ce w we wr nm n T (nI 0) off told wia) H := hP
  have hD : va_D A (wX1 cA g0 r1 r2 r3 r4 r5 ce w we wr nm n T (nI 0) off told wia) := hD
  refine lv_aload_n hx hb dX1_recover_5 rfl (lv_at hl 0 rfl) ?_
  refine lv_iconst (v := (nI 0)) hx hb dX1_recover_6 (by decide) ?_
  refine va_put (D := (dC, dI)) (ci := 1) (v := .int (nI 0)) (ty := .int) (C := RX1) (T := TX1) (N := 11) hx hb hts hin tyX1 tyX1_ok nmX1 hown hK hP hD hS 0 rfl rfl 9 (by decide) (hts (.fieldLink RX1 43 "NestCellsModel" "told" "I") (by decide +kernel)) (fun _ h9 => h9) rfl (by decide +kernel) rfl rfl (Nat.le_of_ble_eq_true rfl) dX1_recover_7 (fun H locs hP hD hS => ?_)
  have hP : va_P (dC, dI) vwCl (wX1 cA g0 r1 r2 r3 r4 r5 ce w we wr nm n T (nI 0) off (nI 0) wia) H := hP
  have hD : va_D A (wX1 cA g0 r1 r2 r3 r4 r5 ce w we wr nm n T (nI 0) off (nI 0) wia) := hD
  refine lv_aload_n hx hb dX1_recover_10 rfl (lv_at hl 0 rfl) ?_
  refine lv_iconst (v := (nI 0)) hx hb dX1_recover_11 (by decide) ?_
  refine va_put (D := (dC, dI)) (ci := 1) (v := .int (nI 0)) (ty := .boolean) (C := RX1) (T := TX1) (N := 11) hx hb hts hin tyX1 tyX1_ok nmX1 hown hK hP hD hS 0 rfl rfl 8 (by decide) (hts (.fieldLink RX1 39 "NestCellsModel" "off" "Z") (by decide +kernel)) (fun _ h9 => h9) rfl (by decide +kernel) rfl rfl (Nat.le_of_ble_eq_true rfl) dX1_recover_12 (fun H locs hP hD hS => ?_)
  have hP : va_P (dC, dI) vwCl (wX1 cA g0 r1 r2 r3 r4 r5 ce w we wr nm n T (nI 0) (nI 0) (nI 0) wia) H := hP
  have hD : va_D A (wX1 cA g0 r1 r2 r3 r4 r5 ce w we wr nm n T (nI 0) (nI 0) (nI 0) wia) := hD
  refine lv_aload_n hx hb dX1_recover_15 rfl (lv_at hl 0 rfl) ?_
  refine lv_iconst (v := (nI 0)) hx hb dX1_recover_16 (by decide) ?_
  refine va_put (D := (dC, dI)) (ci := 1) (v := .int (nI 0)) (ty := .int) (C := RX1) (T := TX1) (N := 11) hx hb hts hin tyX1 tyX1_ok nmX1 hown hK hP hD hS 0 rfl rfl 6 (by decide) (hts (.fieldLink RX1 29 "NestCellsModel" "levels" "I") (by decide +kernel)) (fun _ h9 => h9) rfl (by decide +kernel) rfl rfl (Nat.le_of_ble_eq_true rfl) dX1_recover_17 (fun H locs hP hD hS => ?_)
  have hP : va_P (dC, dI) vwCl (wX1 cA g0 r1 r2 r3 r4 r5 ce w we wr nm 0 T (nI 0) (nI 0) (nI 0) wia) H := hP
  have hD : va_D A (wX1 cA g0 r1 r2 r3 r4 r5 ce w we wr nm 0 T (nI 0) (nI 0) (nI 0) wia) := hD
  refine lv_aload_n hx hb dX1_recover_20 rfl (lv_at hl 0 rfl) ?_
  refine lv_iconst (v := (nI 0)) hx hb dX1_recover_21 (by decide) ?_
  refine va_put (D := (dC, dI)) (ci := 1) (v := .int (nI 0)) (ty := .int) (C := RX1) (T := TX1) (N := 11) hx hb hts hin tyX1 tyX1_ok nmX1 hown hK hP hD hS 0 rfl rfl 7 (by decide) (hts (.fieldLink RX1 36 "NestCellsModel" "transactions" "I") (by decide +kernel)) (fun _ h9 => h9) rfl (by decide +kernel) rfl rfl (Nat.le_of_ble_eq_true rfl) dX1_recover_22 (fun H locs hP hD hS => ?_)
  have hP : va_P (dC, dI) vwCl (wX1 cA g0 r1 r2 r3 r4 r5 ce w we wr nm 0 0 (nI 0) (nI 0) (nI 0) wia) H := hP
  have hD : va_D A (wX1 cA g0 r1 r2 r3 r4 r5 ce w we wr nm 0 0 (nI 0) (nI 0) (nI 0) wia) := hD
  refine lv_iconst (v := (nI 0)) hx hb dX1_recover_25 (by decide) ?_
  refine lv_istore_n (lv' := [(1, .int (nI 0)), (0, .ref g0)]) hx hb dX1_recover_26 rfl hl (by decide) rfl (fun ls hl => ?_)
  refine lv_iconst (v := (nI 0)) hx hb dX1_recover_27 (by decide) ?_
  refine lv_istore_n (lv' := [(2, .int (nI 0)), (1, .int (nI 0)), (0, .ref g0)]) hx hb dX1_recover_28 rfl hl (by decide) rfl (fun ls hl => ?_)
  refine lv_iload_n hx hb dX1_recover_29 rfl (lv_at hl 0 rfl) ?_
  refine lv_aload_n hx hb dX1_recover_30 rfl (lv_at hl 2 rfl) ?_
  refine va_get (D := (dC, dI)) (ci := 1) (v := .ref r2) (C := RX1) (T := TX1) (N := 11) hx hb hts hin hown hK hP 0 rfl rfl 2 (by decide) (hts (.fieldLink RX1 13 "NestCellsModel" "disk" "[I") (by decide +kernel)) (fun _ h9 => h9) rfl dX1_recover_31 ?_
  refine lv_bipush (v := (nI 32)) hx hb dX1_recover_34 (by decide) ?_
  refine kv_iald hx hb hK hP 2 0 rfl rfl (by omega) (by omega) dX1_recover_36 ?_
  refine lv_icmp_ge (tgt := 99) hx hb dX1_recover_37 (by decide) (fun h37_0 => ?_) (fun h37_0 => (((h37_0 (by rw [h0k]; decide))) : False).elim)
  refine lv_aload_n hx hb dX1_recover_99 rfl (lv_at hl 2 rfl) ?_
  refine lv_dup hx hb dX1_recover_100 rfl ?_
  refine va_get (D := (dC, dI)) (ci := 1) (v := .int wia) (C := RX1) (T := TX1) (N := 11) hx hb hts hin hown hK hP 0 rfl rfl 10 (by decide) (hts (.fieldLink RX1 46 "NestCellsModel" "writes" "I") (by decide +kernel)) (fun _ h9 => h9) rfl dX1_recover_101 ?_
  refine lv_iload_n hx hb dX1_recover_104 rfl (lv_at hl 1 rfl) ?_
  refine lv_aload_n hx hb dX1_recover_105 rfl (lv_at hl 2 rfl) ?_
  refine va_get (D := (dC, dI)) (ci := 1) (v := .ref r2) (C := RX1) (T := TX1) (N := 11) hx hb hts hin hown hK hP 0 rfl rfl 2 (by decide) (hts (.fieldLink RX1 13 "NestCellsModel" "disk" "[I") (by decide +kernel)) (fun _ h9 => h9) rfl dX1_recover_106 ?_
  refine lv_bipush (v := (nI 32)) hx hb dX1_recover_109 (by decide) ?_
  refine kv_iald hx hb hK hP 2 0 rfl rfl (by omega) (by omega) dX1_recover_111 ?_
  refine lv_if_ne (tgt := 119) hx hb dX1_recover_112 (by decide) (fun h112_0 => absurd h112_0 (fun q => q h0k)) (fun h112_0 => ?_)
  refine lv_iconst (v := (nI 0)) hx hb dX1_recover_115 (by decide) ?_
  refine lv_goto (tgt := 120) hx hb dX1_recover_116 (by decide) ?_
  refine kv_addE (d := 0) hx hb (by omega) dX1_recover_120 ?_
  refine lv_iadd hx hb dX1_recover_121 ?_
  refine va_put (D := (dC, dI)) (ci := 1) (v := .int (wia + (nI 0))) (ty := .int) (C := RX1) (T := TX1) (N := 11) hx hb hts hin tyX1 tyX1_ok nmX1 hown hK hP hD hS 0 rfl rfl 10 (by decide) (hts (.fieldLink RX1 46 "NestCellsModel" "writes" "I") (by decide +kernel)) (fun _ h9 => h9) rfl (by decide +kernel) rfl rfl (Nat.le_of_ble_eq_true rfl) dX1_recover_122 (fun H locs hP hD hS => ?_)
  have hP : va_P (dC, dI) vwCl (wX1 cA g0 r1 r2 r3 r4 r5 ce w we wr nm 0 0 (nI 0) (nI 0) (nI 0) (wia + (nI 0))) H := hP
  have hD : va_D A (wX1 cA g0 r1 r2 r3 r4 r5 ce w we wr nm 0 0 (nI 0) (nI 0) (nI 0) (wia + (nI 0))) := hD
  refine lv_aload_n hx hb dX1_recover_125 rfl (lv_at hl 2 rfl) ?_
  refine va_get (D := (dC, dI)) (ci := 1) (v := .ref r2) (C := RX1) (T := TX1) (N := 11) hx hb hts hin hown hK hP 0 rfl rfl 2 (by decide) (hts (.fieldLink RX1 13 "NestCellsModel" "disk" "[I") (by decide +kernel)) (fun _ h9 => h9) rfl dX1_recover_126 ?_
  refine lv_bipush (v := (nI 32)) hx hb dX1_recover_129 (by decide) ?_
  refine lv_iconst (v := (nI 0)) hx hb dX1_recover_131 (by decide) ?_
  refine kv_iast hx hb hK hP hD hS 2 0 rfl rfl (by omega) (by omega) dX1_recover_132 (fun H locs hP hD hS => ?_)
  have hP : va_P (dC, dI) vwCl (wX1 cA g0 r1 r2 r3 r4 r5 ce (upd w 32 (nI 0)) we wr nm 0 0 (nI 0) (nI 0) (nI 0) (wia + (nI 0))) H := hP
  have hD : va_D A (wX1 cA g0 r1 r2 r3 r4 r5 ce (upd w 32 (nI 0)) we wr nm 0 0 (nI 0) (nI 0) (nI 0) (wia + (nI 0))) := hD
  refine lv_iconst (v := (nI 0)) hx hb dX1_recover_133 (by decide) ?_
  refine lv_istore_n (lv' := [(2, .int (nI 0)), (1, .int (nI 0)), (0, .ref g0)]) hx hb dX1_recover_134 rfl hl (by decide) rfl (fun ls hl => ?_)
  have hP : va_P (dC, dI) vwCl (wX1 cA g0 r1 r2 r3 r4 r5 (va_cpy (upd w 32 (nI 0)) ce 0 0 0) (upd w 32 (nI 0)) we wr nm 0 0 (nI 0) (nI 0) (nI 0) (wia + (nI 0))) H := by rw [rx_cpy_0]; exact hP
  have hD : va_D A (wX1 cA g0 r1 r2 r3 r4 r5 (va_cpy (upd w 32 (nI 0)) ce 0 0 0) (upd w 32 (nI 0)) we wr nm 0 0 (nI 0) (nI 0) (nI 0) (wia + (nI 0))) := by rw [rx_cpy_0]; exact hD
  have lp : ∀ (k : Nat) (t : Nat), ∀ (_ : t + k = 32), ∀ (H : Heap) (locs : List Loc) (ls : Array Slot), va_P (dC, dI) vwCl (wX1 cA g0 r1 r2 r3 r4 r5 (va_cpy (upd w 32 (nI 0)) ce 0 0 t) (upd w 32 (nI 0)) we wr nm 0 0 (nI 0) (nI 0) (nI 0) (wia + (nI 0))) H → va_D A (wX1 cA g0 r1 r2 r3 r4 r5 (va_cpy (upd w 32 (nI 0)) ce 0 0 t) (upd w 32 (nI 0)) we wr nm 0 0 (nI 0) (nI 0) (nI 0) (wia + (nI 0))) → va_S A s.heap H locs → lv_has ls 4 [(0, .ref g0), (1, .int (nI 0)), (2, .int (nI t))] → W p l e (headSpec wsX1_recover ({ frames := 1, cells := 0, slots := 0, locals := 20 })).room s m ([.ref g0] : List Value).toArray below meth c H locs 0 0 (MQ below (va_Qi (fun (r' : Int32) (_ : Unit) => r' = (nI 0)) (kB dC dI [(cA, .int)] (wX1 cA g0 r1 r2 r3 r4 r5 (va_cpy (upd w 32 (nI 0)) ce 0 0 32) (upd w 32 (nI 0)) we wr nm 0 0 (nI 0) (nI 0) (nI 0) (wia + nI 0)) A) A) ([.ref g0] : List Value).toArray s 0 0 A) (F0 m 135 ls []) := by
    intro k
    induction k with
    | zero =>
      intro t ht H locs ls hP hD hS hl
      refine lv_iload_n hx hb dX1_recover_135 rfl (lv_at hl 2 rfl) ?_
      refine lv_bipush (v := (nI 32)) hx hb dX1_recover_136 (by decide) ?_
      refine kv_ge (tgt := 159) hx hb (by omega) (by omega) dX1_recover_138 (by decide) (fun h138_0 => ?_) (fun h138_0 => absurd h138_0 (by omega))
      refine lv_iload_n hx hb dX1_recover_159 rfl (lv_at hl 1 rfl) ?_
      exact kMi_ret hx hb hr hlocks hP hK hD hS dX1_recover_160 rfl (by rw [show t = 32 by omega])
    | succ k ih =>
      intro t ht H locs ls hP hD hS hl
      refine lv_iload_n hx hb dX1_recover_135 rfl (lv_at hl 2 rfl) ?_
      refine lv_bipush (v := (nI 32)) hx hb dX1_recover_136 (by decide) ?_
      refine kv_ge (tgt := 159) hx hb (by omega) (by omega) dX1_recover_138 (by decide) (fun h138_0 => absurd h138_0 (by omega)) (fun h138_0 => ?_)
      refine lv_aload_n hx hb dX1_recover_141 rfl (lv_at hl 0 rfl) ?_
      refine va_get (D := (dC, dI)) (ci := 1) (v := .ref r1) (C := RX1) (T := TX1) (N := 11) hx hb hts hin hown hK hP 0 rfl rfl 1 (by decide) (hts (.fieldLink RX1 7 "NestCellsModel" "cells" "[I") (by decide +kernel)) (fun _ h9 => h9) rfl dX1_recover_142 ?_
      refine lv_iload_n hx hb dX1_recover_145 rfl (lv_at hl 2 rfl) ?_
      refine lv_aload_n hx hb dX1_recover_146 rfl (lv_at hl 0 rfl) ?_
      refine va_get (D := (dC, dI)) (ci := 1) (v := .ref r2) (C := RX1) (T := TX1) (N := 11) hx hb hts hin hown hK hP 0 rfl rfl 2 (by decide) (hts (.fieldLink RX1 13 "NestCellsModel" "disk" "[I") (by decide +kernel)) (fun _ h9 => h9) rfl dX1_recover_147 ?_
      refine lv_iload_n hx hb dX1_recover_150 rfl (lv_at hl 2 rfl) ?_
      refine kv_iald hx hb hK hP 2 0 rfl rfl (by omega) (by omega) dX1_recover_151 ?_
      refine kv_iast hx hb hK hP hD hS 1 0 rfl rfl (by omega) (by omega) dX1_recover_152 (fun H locs hP hD hS => ?_)
      have hP : va_P (dC, dI) vwCl (wX1 cA g0 r1 r2 r3 r4 r5 (upd (va_cpy (upd w 32 (nI 0)) ce 0 0 t) t ((upd w 32 (nI 0)) t)) (upd w 32 (nI 0)) we wr nm 0 0 (nI 0) (nI 0) (nI 0) (wia + (nI 0))) H := hP
      have hD : va_D A (wX1 cA g0 r1 r2 r3 r4 r5 (upd (va_cpy (upd w 32 (nI 0)) ce 0 0 t) t ((upd w 32 (nI 0)) t)) (upd w 32 (nI 0)) we wr nm 0 0 (nI 0) (nI 0) (nI 0) (wia + (nI 0))) := hD
      refine lv_iinc (v := (nI (t + 1))) (lv' := [(2, .int (nI (t + 1))), (0, .ref g0), (1, .int (nI 0))]) hx hb dX1_recover_153 hl (k := 2) rfl (kv_inc _ 1 (by decide)) (by decide) rfl (fun ls hl => ?_)
      refine lv_goto (tgt := 135) hx hb dX1_recover_156 (by decide) ?_
      have hP : va_P (dC, dI) vwCl (wX1 cA g0 r1 r2 r3 r4 r5 (va_cpy (upd w 32 (nI 0)) ce 0 0 (t + 1)) (upd w 32 (nI 0)) we wr nm 0 0 (nI 0) (nI 0) (nI 0) (wia + (nI 0))) H := by rw [← rx_cpy_s]; exact hP
      have hD : va_D A (wX1 cA g0 r1 r2 r3 r4 r5 (va_cpy (upd w 32 (nI 0)) ce 0 0 (t + 1)) (upd w 32 (nI 0)) we wr nm 0 0 (nI 0) (nI 0) (nI 0) (wia + (nI 0))) := by rw [← rx_cpy_s]; exact hD
      exact ih (t + 1) (by omega) _ _ _ hP hD hS (lv_sub hl [1, 2, 0] rfl)
  exact lp 32 0 (by omega) _ _ _ hP hD hS (lv_sub hl [2, 1, 0] rfl)
set_option maxHeartbeats 4000000 in
set_option maxRecDepth 100000 in
/-- NestCellsModel.disk_a  -/
theorem c_X1_disk_a (l : Launch) (dC : Nat → ClassId) (dI : Nat → Nat → Nat) (cA : ClassId) (g0 r1 r2 r3 r4 r5 : Nat) (ce w we wr nm : Nat → Int32) (n T : Nat) (cd off told wia : Int32) (i : Int32) (hw : i < 0 ∨ ¬ i < nI 98) : kMi l yX1_disk wsX1_disk ({ frames := 1, cells := 0, slots := 0, locals := 21 }) dC dI [(cA, .int)] (wX1 cA g0 r1 r2 r3 r4 r5 ce w we wr nm n T cd off told wia) [.ref g0, .int i] (nI 0) (wX1 cA g0 r1 r2 r3 r4 r5 ce w we wr nm n T (nI 1) off told wia) := by
  refine kMi_of (cc := cX1_disk) (maxL := 2) (ret := (some .int)) (by decide) rfl (Nat.le_of_ble_eq_true rfl) ?_
  intro p e s m below meth c A ls hx hb hml hr hts hown hlocks hA hP hK hD hS hl
  have hin : ∀ w ∈ u_ws RX1 TX1 11, w ∈ wsX1_disk := by decide +kernel
  have hl : lv_has ls 2 [(0, .ref g0), (1, .int i)] := hl
  refine lv_aload_n hx hb dX1_disk_0 rfl (lv_at hl 0 rfl) ?_
  refine lv_iload_n hx hb dX1_disk_1 rfl (lv_at hl 1 rfl) ?_
  refine lv_if_lt (tgt := 11) hx hb dX1_disk_2 (by decide) (fun h2_0 => ?_) (fun h2_0 => ?_)
  · skip
    refine lv_iconst (v := (nI 1)) hx hb dX1_disk_11 (by decide) ?_
    refine lv_goto (tgt := 16) hx hb dX1_disk_12 (by decide) ?_
    refine kv_Vi (Xr := []) (n := 1) (c_X1_refuses_1 l dC dI cA g0 r1 r2 r3 r4 r5 ce w we wr nm n T cd off told wia  ) hx hb hml hown hts gX1_disk_X1_refuses rfl ⟨rfl, rfl⟩ (by decide +kernel) rfl ⟨Nat.le_of_ble_eq_true rfl, Nat.le_of_ble_eq_true rfl⟩ hK hP hD hS hA [0] [0, 1, 2, 3, 4, 5] [] rfl rfl rfl (by decide) (by decide) (q0 := 0) rfl rfl rfl (by decide) hl.1 rfl (Nat.le_of_ble_eq_true rfl) dX1_disk_16 ⟨Nat.zero_le _, Nat.zero_le _⟩ (fun H locs hP hD hS => ?_)
    have hP : va_P (dC, dI) vwCl (wX1 cA g0 r1 r2 r3 r4 r5 ce w we wr nm n T (nI 1) off told wia) H := hP
    have hD : va_D A (wX1 cA g0 r1 r2 r3 r4 r5 ce w we wr nm n T (nI 1) off told wia) := hD
    refine kv_if_eq (tgt := 26) hx hb (by omega) dX1_disk_19 (by decide) (fun h9 => absurd h9 (by omega)) (fun _ => ?_)
    refine lv_iconst (v := (nI 0)) hx hb dX1_disk_22 (by decide) ?_
    refine lv_goto (tgt := 32) hx hb dX1_disk_23 (by decide) ?_
    exact kMi_ret hx hb hr hlocks hP hK hD hS dX1_disk_32 rfl rfl
  · skip
    refine lv_iload_n hx hb dX1_disk_5 rfl (lv_at hl 1 rfl) ?_
    refine lv_bipush (v := (nI 98)) hx hb dX1_disk_6 (by decide) ?_
    refine lv_icmp_lt (tgt := 15) hx hb dX1_disk_8 (by decide) (fun h8_1 => (((hw.elim h2_0 (fun q => q h8_1))) : False).elim) (fun h8_1 => ?_)
    refine lv_iconst (v := (nI 1)) hx hb dX1_disk_11 (by decide) ?_
    refine lv_goto (tgt := 16) hx hb dX1_disk_12 (by decide) ?_
    refine kv_Vi (Xr := []) (n := 1) (c_X1_refuses_1 l dC dI cA g0 r1 r2 r3 r4 r5 ce w we wr nm n T cd off told wia  ) hx hb hml hown hts gX1_disk_X1_refuses rfl ⟨rfl, rfl⟩ (by decide +kernel) rfl ⟨Nat.le_of_ble_eq_true rfl, Nat.le_of_ble_eq_true rfl⟩ hK hP hD hS hA [0] [0, 1, 2, 3, 4, 5] [] rfl rfl rfl (by decide) (by decide) (q0 := 0) rfl rfl rfl (by decide) hl.1 rfl (Nat.le_of_ble_eq_true rfl) dX1_disk_16 ⟨Nat.zero_le _, Nat.zero_le _⟩ (fun H locs hP hD hS => ?_)
    have hP : va_P (dC, dI) vwCl (wX1 cA g0 r1 r2 r3 r4 r5 ce w we wr nm n T (nI 1) off told wia) H := hP
    have hD : va_D A (wX1 cA g0 r1 r2 r3 r4 r5 ce w we wr nm n T (nI 1) off told wia) := hD
    refine kv_if_eq (tgt := 26) hx hb (by omega) dX1_disk_19 (by decide) (fun h9 => absurd h9 (by omega)) (fun _ => ?_)
    refine lv_iconst (v := (nI 0)) hx hb dX1_disk_22 (by decide) ?_
    refine lv_goto (tgt := 32) hx hb dX1_disk_23 (by decide) ?_
    exact kMi_ret hx hb hr hlocks hP hK hD hS dX1_disk_32 rfl rfl
set_option maxHeartbeats 4000000 in
set_option maxRecDepth 100000 in
/-- NestCellsModel.spoil_a  -/
theorem c_X1_spoil_a (l : Launch) (dC : Nat → ClassId) (dI : Nat → Nat → Nat) (cA : ClassId) (g0 r1 r2 r3 r4 r5 : Nat) (ce w we wr nm : Nat → Int32) (n T : Nat) (cd off told wia : Int32) (i : Int32) (v : Int32) (hw : i < 0 ∨ ¬ i < nI 98) : kMi l yX1_spoil wsX1_spoil ({ frames := 1, cells := 0, slots := 0, locals := 21 }) dC dI [(cA, .int)] (wX1 cA g0 r1 r2 r3 r4 r5 ce w we wr nm n T cd off told wia) [.ref g0, .int i, .int v] (nI 0) (wX1 cA g0 r1 r2 r3 r4 r5 ce w we wr nm n T (nI 1) off told wia) := by
  refine kMi_of (cc := cX1_spoil) (maxL := 4) (ret := (some .int)) (by decide) rfl (Nat.le_of_ble_eq_true rfl) ?_
  intro p e s m below meth c A ls hx hb hml hr hts hown hlocks hA hP hK hD hS hl
  have hin : ∀ w ∈ u_ws RX1 TX1 11, w ∈ wsX1_spoil := by decide +kernel
  have hl : lv_has ls 4 [(0, .ref g0), (1, .int i), (2, .int v)] := hl
  refine lv_aload_n hx hb dX1_spoil_0 rfl (lv_at hl 0 rfl) ?_
  refine lv_iload_n hx hb dX1_spoil_1 rfl (lv_at hl 1 rfl) ?_
  refine lv_if_lt (tgt := 11) hx hb dX1_spoil_2 (by decide) (fun h2_0 => ?_) (fun h2_0 => ?_)
  · skip
    refine lv_iconst (v := (nI 1)) hx hb dX1_spoil_11 (by decide) ?_
    refine lv_goto (tgt := 16) hx hb dX1_spoil_12 (by decide) ?_
    refine kv_Vi (Xr := []) (n := 1) (c_X1_refuses_1 l dC dI cA g0 r1 r2 r3 r4 r5 ce w we wr nm n T cd off told wia  ) hx hb hml hown hts gX1_spoil_X1_refuses rfl ⟨rfl, rfl⟩ (by decide +kernel) rfl ⟨Nat.le_of_ble_eq_true rfl, Nat.le_of_ble_eq_true rfl⟩ hK hP hD hS hA [0] [0, 1, 2, 3, 4, 5] [] rfl rfl rfl (by decide) (by decide) (q0 := 0) rfl rfl rfl (by decide) hl.1 rfl (Nat.le_of_ble_eq_true rfl) dX1_spoil_16 ⟨Nat.zero_le _, Nat.zero_le _⟩ (fun H locs hP hD hS => ?_)
    have hP : va_P (dC, dI) vwCl (wX1 cA g0 r1 r2 r3 r4 r5 ce w we wr nm n T (nI 1) off told wia) H := hP
    have hD : va_D A (wX1 cA g0 r1 r2 r3 r4 r5 ce w we wr nm n T (nI 1) off told wia) := hD
    refine kv_if_eq (tgt := 24) hx hb (by omega) dX1_spoil_19 (by decide) (fun h9 => absurd h9 (by omega)) (fun _ => ?_)
    refine lv_iconst (v := (nI 0)) hx hb dX1_spoil_22 (by decide) ?_
    exact kMi_ret hx hb hr hlocks hP hK hD hS dX1_spoil_23 rfl rfl
  · skip
    refine lv_iload_n hx hb dX1_spoil_5 rfl (lv_at hl 1 rfl) ?_
    refine lv_bipush (v := (nI 98)) hx hb dX1_spoil_6 (by decide) ?_
    refine lv_icmp_lt (tgt := 15) hx hb dX1_spoil_8 (by decide) (fun h8_1 => (((hw.elim h2_0 (fun q => q h8_1))) : False).elim) (fun h8_1 => ?_)
    refine lv_iconst (v := (nI 1)) hx hb dX1_spoil_11 (by decide) ?_
    refine lv_goto (tgt := 16) hx hb dX1_spoil_12 (by decide) ?_
    refine kv_Vi (Xr := []) (n := 1) (c_X1_refuses_1 l dC dI cA g0 r1 r2 r3 r4 r5 ce w we wr nm n T cd off told wia  ) hx hb hml hown hts gX1_spoil_X1_refuses rfl ⟨rfl, rfl⟩ (by decide +kernel) rfl ⟨Nat.le_of_ble_eq_true rfl, Nat.le_of_ble_eq_true rfl⟩ hK hP hD hS hA [0] [0, 1, 2, 3, 4, 5] [] rfl rfl rfl (by decide) (by decide) (q0 := 0) rfl rfl rfl (by decide) hl.1 rfl (Nat.le_of_ble_eq_true rfl) dX1_spoil_16 ⟨Nat.zero_le _, Nat.zero_le _⟩ (fun H locs hP hD hS => ?_)
    have hP : va_P (dC, dI) vwCl (wX1 cA g0 r1 r2 r3 r4 r5 ce w we wr nm n T (nI 1) off told wia) H := hP
    have hD : va_D A (wX1 cA g0 r1 r2 r3 r4 r5 ce w we wr nm n T (nI 1) off told wia) := hD
    refine kv_if_eq (tgt := 24) hx hb (by omega) dX1_spoil_19 (by decide) (fun h9 => absurd h9 (by omega)) (fun _ => ?_)
    refine lv_iconst (v := (nI 0)) hx hb dX1_spoil_22 (by decide) ?_
    exact kMi_ret hx hb hr hlocks hP hK hD hS dX1_spoil_23 rfl rfl
set_option maxHeartbeats 4000000 in
set_option maxRecDepth 100000 in
/-- NestCellsModel.disk  -/
theorem c_X1_disk (l : Launch) (dC : Nat → ClassId) (dI : Nat → Nat → Nat) (cA : ClassId) (g0 r1 r2 r3 r4 r5 : Nat) (ce w we wr nm : Nat → Int32) (n T : Nat) (cd off told wia : Int32) (i : Nat) (hi : i < 98) : kMi l yX1_disk wsX1_disk ({ frames := 1, cells := 0, slots := 0, locals := 21 }) dC dI [(cA, .int)] (wX1 cA g0 r1 r2 r3 r4 r5 ce w we wr nm n T cd off told wia) [.ref g0, .int (nI i)] (w i) (wX1 cA g0 r1 r2 r3 r4 r5 ce w we wr nm n T (nI 0) off told wia) := by
  refine kMi_of (cc := cX1_disk) (maxL := 2) (ret := (some .int)) (by decide) rfl (Nat.le_of_ble_eq_true rfl) ?_
  intro p e s m below meth c A ls hx hb hml hr hts hown hlocks hA hP hK hD hS hl
  have hin : ∀ w ∈ u_ws RX1 TX1 11, w ∈ wsX1_disk := by decide +kernel
  have hl : lv_has ls 2 [(0, .ref g0), (1, .int (nI i))] := hl
  refine lv_aload_n hx hb dX1_disk_0 rfl (lv_at hl 0 rfl) ?_
  refine lv_iload_n hx hb dX1_disk_1 rfl (lv_at hl 1 rfl) ?_
  refine kv_if_lt (tgt := 11) hx hb (by omega) dX1_disk_2 (by decide) ?_
  refine lv_iload_n hx hb dX1_disk_5 rfl (lv_at hl 1 rfl) ?_
  refine lv_bipush (v := (nI 98)) hx hb dX1_disk_6 (by decide) ?_
  refine kv_lt (tgt := 15) hx hb (by omega) (by omega) dX1_disk_8 (by decide) (fun h8_0 => ?_) (fun h8_0 => absurd h8_0 (by omega))
  refine lv_iconst (v := (nI 0)) hx hb dX1_disk_15 (by decide) ?_
  refine kv_Vi (Xr := []) (n := 1) (c_X1_refuses_0 l dC dI cA g0 r1 r2 r3 r4 r5 ce w we wr nm n T cd off told wia  ) hx hb hml hown hts gX1_disk_X1_refuses rfl ⟨rfl, rfl⟩ (by decide +kernel) rfl ⟨Nat.le_of_ble_eq_true rfl, Nat.le_of_ble_eq_true rfl⟩ hK hP hD hS hA [0] [0, 1, 2, 3, 4, 5] [] rfl rfl rfl (by decide) (by decide) (q0 := 0) rfl rfl rfl (by decide) hl.1 rfl (Nat.le_of_ble_eq_true rfl) dX1_disk_16 ⟨Nat.zero_le _, Nat.zero_le _⟩ (fun H locs hP hD hS => ?_)
  have hP : va_P (dC, dI) vwCl (wX1 cA g0 r1 r2 r3 r4 r5 ce w we wr nm n T (nI 0) off told wia) H := hP
  have hD : va_D A (wX1 cA g0 r1 r2 r3 r4 r5 ce w we wr nm n T (nI 0) off told wia) := hD
  refine kv_if_eq (tgt := 26) hx hb (by omega) dX1_disk_19 (by decide) (fun _ => ?_) (fun h9 => absurd h9 (by omega))
  refine lv_aload_n hx hb dX1_disk_26 rfl (lv_at hl 0 rfl) ?_
  refine va_get (D := (dC, dI)) (ci := 1) (v := .ref r2) (C := RX1) (T := TX1) (N := 11) hx hb hts hin hown hK hP 0 rfl rfl 2 (by decide) (hts (.fieldLink RX1 13 "NestCellsModel" "disk" "[I") (by decide +kernel)) (fun _ h9 => h9) rfl dX1_disk_27 ?_
  refine lv_iload_n hx hb dX1_disk_30 rfl (lv_at hl 1 rfl) ?_
  refine kv_iald hx hb hK hP 2 0 rfl rfl (by omega) (by omega) dX1_disk_31 ?_
  exact kMi_ret hx hb hr hlocks hP hK hD hS dX1_disk_32 rfl rfl
set_option maxHeartbeats 4000000 in
set_option maxRecDepth 100000 in
/-- NestCellsModel.spoil  -/
theorem c_X1_spoil (l : Launch) (dC : Nat → ClassId) (dI : Nat → Nat → Nat) (cA : ClassId) (g0 r1 r2 r3 r4 r5 : Nat) (ce w we wr nm : Nat → Int32) (n T : Nat) (cd off told wia : Int32) (i : Nat) (v : Int32) (hi : i < 98) : kMi l yX1_spoil wsX1_spoil ({ frames := 1, cells := 0, slots := 0, locals := 21 }) dC dI [(cA, .int)] (wX1 cA g0 r1 r2 r3 r4 r5 ce w we wr nm n T cd off told wia) [.ref g0, .int (nI i), .int v] (w i) (wX1 cA g0 r1 r2 r3 r4 r5 ce (upd w i v) we wr nm n T (nI 0) off told wia) := by
  refine kMi_of (cc := cX1_spoil) (maxL := 4) (ret := (some .int)) (by decide) rfl (Nat.le_of_ble_eq_true rfl) ?_
  intro p e s m below meth c A ls hx hb hml hr hts hown hlocks hA hP hK hD hS hl
  have hin : ∀ w ∈ u_ws RX1 TX1 11, w ∈ wsX1_spoil := by decide +kernel
  have hl : lv_has ls 4 [(0, .ref g0), (1, .int (nI i)), (2, .int v)] := hl
  refine lv_aload_n hx hb dX1_spoil_0 rfl (lv_at hl 0 rfl) ?_
  refine lv_iload_n hx hb dX1_spoil_1 rfl (lv_at hl 1 rfl) ?_
  refine kv_if_lt (tgt := 11) hx hb (by omega) dX1_spoil_2 (by decide) ?_
  refine lv_iload_n hx hb dX1_spoil_5 rfl (lv_at hl 1 rfl) ?_
  refine lv_bipush (v := (nI 98)) hx hb dX1_spoil_6 (by decide) ?_
  refine kv_lt (tgt := 15) hx hb (by omega) (by omega) dX1_spoil_8 (by decide) (fun h8_0 => ?_) (fun h8_0 => absurd h8_0 (by omega))
  refine lv_iconst (v := (nI 0)) hx hb dX1_spoil_15 (by decide) ?_
  refine kv_Vi (Xr := []) (n := 1) (c_X1_refuses_0 l dC dI cA g0 r1 r2 r3 r4 r5 ce w we wr nm n T cd off told wia  ) hx hb hml hown hts gX1_spoil_X1_refuses rfl ⟨rfl, rfl⟩ (by decide +kernel) rfl ⟨Nat.le_of_ble_eq_true rfl, Nat.le_of_ble_eq_true rfl⟩ hK hP hD hS hA [0] [0, 1, 2, 3, 4, 5] [] rfl rfl rfl (by decide) (by decide) (q0 := 0) rfl rfl rfl (by decide) hl.1 rfl (Nat.le_of_ble_eq_true rfl) dX1_spoil_16 ⟨Nat.zero_le _, Nat.zero_le _⟩ (fun H locs hP hD hS => ?_)
  have hP : va_P (dC, dI) vwCl (wX1 cA g0 r1 r2 r3 r4 r5 ce w we wr nm n T (nI 0) off told wia) H := hP
  have hD : va_D A (wX1 cA g0 r1 r2 r3 r4 r5 ce w we wr nm n T (nI 0) off told wia) := hD
  refine kv_if_eq (tgt := 24) hx hb (by omega) dX1_spoil_19 (by decide) (fun _ => ?_) (fun h9 => absurd h9 (by omega))
  refine lv_aload_n hx hb dX1_spoil_24 rfl (lv_at hl 0 rfl) ?_
  refine va_get (D := (dC, dI)) (ci := 1) (v := .ref r2) (C := RX1) (T := TX1) (N := 11) hx hb hts hin hown hK hP 0 rfl rfl 2 (by decide) (hts (.fieldLink RX1 13 "NestCellsModel" "disk" "[I") (by decide +kernel)) (fun _ h9 => h9) rfl dX1_spoil_25 ?_
  refine lv_iload_n hx hb dX1_spoil_28 rfl (lv_at hl 1 rfl) ?_
  refine kv_iald hx hb hK hP 2 0 rfl rfl (by omega) (by omega) dX1_spoil_29 ?_
  refine lv_istore_n (lv' := [(3, .int (w i)), (0, .ref g0), (1, .int (nI i)), (2, .int v)]) hx hb dX1_spoil_30 rfl hl (by decide) rfl (fun ls hl => ?_)
  refine lv_aload_n hx hb dX1_spoil_31 rfl (lv_at hl 1 rfl) ?_
  refine va_get (D := (dC, dI)) (ci := 1) (v := .ref r2) (C := RX1) (T := TX1) (N := 11) hx hb hts hin hown hK hP 0 rfl rfl 2 (by decide) (hts (.fieldLink RX1 13 "NestCellsModel" "disk" "[I") (by decide +kernel)) (fun _ h9 => h9) rfl dX1_spoil_32 ?_
  refine lv_iload_n hx hb dX1_spoil_35 rfl (lv_at hl 2 rfl) ?_
  refine lv_iload_n hx hb dX1_spoil_36 rfl (lv_at hl 3 rfl) ?_
  refine kv_iast hx hb hK hP hD hS 2 0 rfl rfl (by omega) (by omega) dX1_spoil_37 (fun H locs hP hD hS => ?_)
  have hP : va_P (dC, dI) vwCl (wX1 cA g0 r1 r2 r3 r4 r5 ce (upd w i v) we wr nm n T (nI 0) off told wia) H := hP
  have hD : va_D A (wX1 cA g0 r1 r2 r3 r4 r5 ce (upd w i v) we wr nm n T (nI 0) off told wia) := hD
  refine lv_iload_n hx hb dX1_spoil_38 rfl (lv_at hl 0 rfl) ?_
  exact kMi_ret hx hb hr hlocks hP hK hD hS dX1_spoil_39 rfl rfl
set_option maxHeartbeats 4000000 in
set_option maxRecDepth 100000 in
/-- NestCellsModel.level_a  -/
theorem c_X1_level_a (l : Launch) (dC : Nat → ClassId) (dI : Nat → Nat → Nat) (cA : ClassId) (g0 r1 r2 r3 r4 r5 : Nat) (ce w we wr nm : Nat → Int32) (n T : Nat) (cd off told wia : Int32) (i : Int32) (what : Int32) (hn : n ≤ 88) (hw : i < 0 ∨ ¬ i < nI n) : kMi l yX1_level wsX1_level ({ frames := 1, cells := 0, slots := 0, locals := 22 }) dC dI [(cA, .int)] (wX1 cA g0 r1 r2 r3 r4 r5 ce w we wr nm n T cd off told wia) [.ref g0, .int i, .int what] (nI 0) (wX1 cA g0 r1 r2 r3 r4 r5 ce w we wr nm n T (nI 1) off told wia) := by
  refine kMi_of (cc := cX1_level) (maxL := 3) (ret := (some .int)) (by decide) rfl (Nat.le_of_ble_eq_true rfl) ?_
  intro p e s m below meth c A ls hx hb hml hr hts hown hlocks hA hP hK hD hS hl
  have hin : ∀ w ∈ u_ws RX1 TX1 11, w ∈ wsX1_level := by decide +kernel
  have hl : lv_has ls 3 [(0, .ref g0), (1, .int i), (2, .int what)] := hl
  refine lv_aload_n hx hb dX1_level_0 rfl (lv_at hl 0 rfl) ?_
  refine lv_iload_n hx hb dX1_level_1 rfl (lv_at hl 1 rfl) ?_
  refine lv_if_lt (tgt := 22) hx hb dX1_level_2 (by decide) (fun h2_0 => ?_) (fun h2_0 => ?_)
  · skip
    refine lv_iconst (v := (nI 1)) hx hb dX1_level_22 (by decide) ?_
    refine lv_goto (tgt := 27) hx hb dX1_level_23 (by decide) ?_
    refine kv_Vi (Xr := []) (n := 1) (c_X1_refuses_1 l dC dI cA g0 r1 r2 r3 r4 r5 ce w we wr nm n T cd off told wia  ) hx hb hml hown hts gX1_level_X1_refuses rfl ⟨rfl, rfl⟩ (by decide +kernel) rfl ⟨Nat.le_of_ble_eq_true rfl, Nat.le_of_ble_eq_true rfl⟩ hK hP hD hS hA [0] [0, 1, 2, 3, 4, 5] [] rfl rfl rfl (by decide) (by decide) (q0 := 0) rfl rfl rfl (by decide) hl.1 rfl (Nat.le_of_ble_eq_true rfl) dX1_level_27 ⟨Nat.zero_le _, Nat.zero_le _⟩ (fun H locs hP hD hS => ?_)
    have hP : va_P (dC, dI) vwCl (wX1 cA g0 r1 r2 r3 r4 r5 ce w we wr nm n T (nI 1) off told wia) H := hP
    have hD : va_D A (wX1 cA g0 r1 r2 r3 r4 r5 ce w we wr nm n T (nI 1) off told wia) := hD
    refine kv_if_eq (tgt := 37) hx hb (by omega) dX1_level_30 (by decide) (fun h9 => absurd h9 (by omega)) (fun _ => ?_)
    refine lv_iconst (v := (nI 0)) hx hb dX1_level_33 (by decide) ?_
    refine lv_goto (tgt := 59) hx hb dX1_level_34 (by decide) ?_
    exact kMi_ret hx hb hr hlocks hP hK hD hS dX1_level_59 rfl rfl
  · skip
    refine lv_iload_n hx hb dX1_level_5 rfl (lv_at hl 1 rfl) ?_
    refine lv_aload_n hx hb dX1_level_6 rfl (lv_at hl 0 rfl) ?_
    refine va_get (D := (dC, dI)) (ci := 1) (v := .int (nI n)) (C := RX1) (T := TX1) (N := 11) hx hb hts hin hown hK hP 0 rfl rfl 6 (by decide) (hts (.fieldLink RX1 29 "NestCellsModel" "levels" "I") (by decide +kernel)) (fun _ h9 => h9) rfl dX1_level_7 ?_
    refine lv_icmp_ge (tgt := 22) hx hb dX1_level_10 (by decide) (fun h10_1 => ?_) (fun h10_1 => (((hw.elim h2_0 (fun q => q (Int32.not_le.mp h10_1)))) : False).elim)
    refine lv_iconst (v := (nI 1)) hx hb dX1_level_22 (by decide) ?_
    refine lv_goto (tgt := 27) hx hb dX1_level_23 (by decide) ?_
    refine kv_Vi (Xr := []) (n := 1) (c_X1_refuses_1 l dC dI cA g0 r1 r2 r3 r4 r5 ce w we wr nm n T cd off told wia  ) hx hb hml hown hts gX1_level_X1_refuses rfl ⟨rfl, rfl⟩ (by decide +kernel) rfl ⟨Nat.le_of_ble_eq_true rfl, Nat.le_of_ble_eq_true rfl⟩ hK hP hD hS hA [0] [0, 1, 2, 3, 4, 5] [] rfl rfl rfl (by decide) (by decide) (q0 := 0) rfl rfl rfl (by decide) hl.1 rfl (Nat.le_of_ble_eq_true rfl) dX1_level_27 ⟨Nat.zero_le _, Nat.zero_le _⟩ (fun H locs hP hD hS => ?_)
    have hP : va_P (dC, dI) vwCl (wX1 cA g0 r1 r2 r3 r4 r5 ce w we wr nm n T (nI 1) off told wia) H := hP
    have hD : va_D A (wX1 cA g0 r1 r2 r3 r4 r5 ce w we wr nm n T (nI 1) off told wia) := hD
    refine kv_if_eq (tgt := 37) hx hb (by omega) dX1_level_30 (by decide) (fun h9 => absurd h9 (by omega)) (fun _ => ?_)
    refine lv_iconst (v := (nI 0)) hx hb dX1_level_33 (by decide) ?_
    refine lv_goto (tgt := 59) hx hb dX1_level_34 (by decide) ?_
    exact kMi_ret hx hb hr hlocks hP hK hD hS dX1_level_59 rfl rfl
theorem rx_w01 {x : Int32} (h0 : ¬ x < 0) (h1 : x ≤ nI 1) : x.toInt = 0 ∨ x.toInt = 1 := by
  rw [Int32.lt_iff_toInt_lt] at h0
  rw [Int32.le_iff_toInt_le] at h1
  have e : (nI 1).toInt = 1 := by decide
  have e0 : (0 : Int32).toInt = 0 := by decide
  omega
theorem rx_w6 {x : Int32} (h0 : ¬ x < 0) (h1 : x ≤ nI 6) : ¬ (x.toInt < 0 ∨ 6 < x.toInt) := by
  rw [Int32.lt_iff_toInt_lt] at h0
  rw [Int32.le_iff_toInt_le] at h1
  have e : (nI 6).toInt = 6 := by decide
  have e0 : (0 : Int32).toInt = 0 := by decide
  omega
set_option maxHeartbeats 4000000 in
set_option maxRecDepth 100000 in
/-- NestCellsModel.level_b  -/
theorem c_X1_level_b (l : Launch) (dC : Nat → ClassId) (dI : Nat → Nat → Nat) (cA : ClassId) (g0 r1 r2 r3 r4 r5 : Nat) (ce w we wr nm : Nat → Int32) (n T : Nat) (cd off told wia : Int32) (i : Nat) (what : Int32) (hn : n ≤ 88) (hi : i < n) (h0w : ¬ what.toInt = 0) (h1w : ¬ what.toInt = 1) : kMi l yX1_level wsX1_level ({ frames := 1, cells := 0, slots := 0, locals := 22 }) dC dI [(cA, .int)] (wX1 cA g0 r1 r2 r3 r4 r5 ce w we wr nm n T cd off told wia) [.ref g0, .int (nI i), .int what] (nI 0) (wX1 cA g0 r1 r2 r3 r4 r5 ce w we wr nm n T (nI 1) off told wia) := by
  refine kMi_of (cc := cX1_level) (maxL := 3) (ret := (some .int)) (by decide) rfl (Nat.le_of_ble_eq_true rfl) ?_
  intro p e s m below meth c A ls hx hb hml hr hts hown hlocks hA hP hK hD hS hl
  have hin : ∀ w ∈ u_ws RX1 TX1 11, w ∈ wsX1_level := by decide +kernel
  have hl : lv_has ls 3 [(0, .ref g0), (1, .int (nI i)), (2, .int what)] := hl
  refine lv_aload_n hx hb dX1_level_0 rfl (lv_at hl 0 rfl) ?_
  refine lv_iload_n hx hb dX1_level_1 rfl (lv_at hl 1 rfl) ?_
  refine kv_if_lt (tgt := 22) hx hb (by omega) dX1_level_2 (by decide) ?_
  refine lv_iload_n hx hb dX1_level_5 rfl (lv_at hl 1 rfl) ?_
  refine lv_aload_n hx hb dX1_level_6 rfl (lv_at hl 0 rfl) ?_
  refine va_get (D := (dC, dI)) (ci := 1) (v := .int (nI n)) (C := RX1) (T := TX1) (N := 11) hx hb hts hin hown hK hP 0 rfl rfl 6 (by decide) (hts (.fieldLink RX1 29 "NestCellsModel" "levels" "I") (by decide +kernel)) (fun _ h9 => h9) rfl dX1_level_7 ?_
  refine kv_ge (tgt := 22) hx hb (by omega) (by omega) dX1_level_10 (by decide) (fun h10_0 => absurd h10_0 (by omega)) (fun h10_0 => ?_)
  refine lv_iload_n hx hb dX1_level_13 rfl (lv_at hl 2 rfl) ?_
  refine lv_if_lt (tgt := 22) hx hb dX1_level_14 (by decide) (fun h14_0 => ?_) (fun h14_0 => ?_)
  · skip
    refine lv_iconst (v := (nI 1)) hx hb dX1_level_22 (by decide) ?_
    refine lv_goto (tgt := 27) hx hb dX1_level_23 (by decide) ?_
    refine kv_Vi (Xr := []) (n := 1) (c_X1_refuses_1 l dC dI cA g0 r1 r2 r3 r4 r5 ce w we wr nm n T cd off told wia  ) hx hb hml hown hts gX1_level_X1_refuses rfl ⟨rfl, rfl⟩ (by decide +kernel) rfl ⟨Nat.le_of_ble_eq_true rfl, Nat.le_of_ble_eq_true rfl⟩ hK hP hD hS hA [0] [0, 1, 2, 3, 4, 5] [] rfl rfl rfl (by decide) (by decide) (q0 := 0) rfl rfl rfl (by decide) hl.1 rfl (Nat.le_of_ble_eq_true rfl) dX1_level_27 ⟨Nat.zero_le _, Nat.zero_le _⟩ (fun H locs hP hD hS => ?_)
    have hP : va_P (dC, dI) vwCl (wX1 cA g0 r1 r2 r3 r4 r5 ce w we wr nm n T (nI 1) off told wia) H := hP
    have hD : va_D A (wX1 cA g0 r1 r2 r3 r4 r5 ce w we wr nm n T (nI 1) off told wia) := hD
    refine kv_if_eq (tgt := 37) hx hb (by omega) dX1_level_30 (by decide) (fun h9 => absurd h9 (by omega)) (fun _ => ?_)
    refine lv_iconst (v := (nI 0)) hx hb dX1_level_33 (by decide) ?_
    refine lv_goto (tgt := 59) hx hb dX1_level_34 (by decide) ?_
    exact kMi_ret hx hb hr hlocks hP hK hD hS dX1_level_59 rfl rfl
  · skip
    refine lv_iload_n hx hb dX1_level_17 rfl (lv_at hl 2 rfl) ?_
    refine lv_iconst (v := (nI 1)) hx hb dX1_level_18 (by decide) ?_
    refine lv_icmp_le (tgt := 26) hx hb dX1_level_19 (by decide) (fun h19_1 => ((((rx_w01 h14_0 h19_1).elim h0w h1w)) : False).elim) (fun h19_1 => ?_)
    refine lv_iconst (v := (nI 1)) hx hb dX1_level_22 (by decide) ?_
    refine lv_goto (tgt := 27) hx hb dX1_level_23 (by decide) ?_
    refine kv_Vi (Xr := []) (n := 1) (c_X1_refuses_1 l dC dI cA g0 r1 r2 r3 r4 r5 ce w we wr nm n T cd off told wia  ) hx hb hml hown hts gX1_level_X1_refuses rfl ⟨rfl, rfl⟩ (by decide +kernel) rfl ⟨Nat.le_of_ble_eq_true rfl, Nat.le_of_ble_eq_true rfl⟩ hK hP hD hS hA [0] [0, 1, 2, 3, 4, 5] [] rfl rfl rfl (by decide) (by decide) (q0 := 0) rfl rfl rfl (by decide) hl.1 rfl (Nat.le_of_ble_eq_true rfl) dX1_level_27 ⟨Nat.zero_le _, Nat.zero_le _⟩ (fun H locs hP hD hS => ?_)
    have hP : va_P (dC, dI) vwCl (wX1 cA g0 r1 r2 r3 r4 r5 ce w we wr nm n T (nI 1) off told wia) H := hP
    have hD : va_D A (wX1 cA g0 r1 r2 r3 r4 r5 ce w we wr nm n T (nI 1) off told wia) := hD
    refine kv_if_eq (tgt := 37) hx hb (by omega) dX1_level_30 (by decide) (fun h9 => absurd h9 (by omega)) (fun _ => ?_)
    refine lv_iconst (v := (nI 0)) hx hb dX1_level_33 (by decide) ?_
    refine lv_goto (tgt := 59) hx hb dX1_level_34 (by decide) ?_
    exact kMi_ret hx hb hr hlocks hP hK hD hS dX1_level_59 rfl rfl
set_option maxHeartbeats 4000000 in
set_option maxRecDepth 100000 in
/-- NestCellsModel.level_0  -/
theorem c_X1_level_0 (l : Launch) (dC : Nat → ClassId) (dI : Nat → Nat → Nat) (cA : ClassId) (g0 r1 r2 r3 r4 r5 : Nat) (ce w we wr nm : Nat → Int32) (n T : Nat) (cd off told wia : Int32) (i : Nat) (hn : n ≤ 88) (hi : i < n) : kMi l yX1_level wsX1_level ({ frames := 1, cells := 0, slots := 0, locals := 22 }) dC dI [(cA, .int)] (wX1 cA g0 r1 r2 r3 r4 r5 ce w we wr nm n T cd off told wia) [.ref g0, .int (nI i), .int (nI 0)] (nI (mo_bits (wr i) 32)) (wX1 cA g0 r1 r2 r3 r4 r5 ce w we wr nm n T (nI 0) off told wia) := by
  refine kMi_of (cc := cX1_level) (maxL := 3) (ret := (some .int)) (by decide) rfl (Nat.le_of_ble_eq_true rfl) ?_
  intro p e s m below meth c A ls hx hb hml hr hts hown hlocks hA hP hK hD hS hl
  have hin : ∀ w ∈ u_ws RX1 TX1 11, w ∈ wsX1_level := by decide +kernel
  have hl : lv_has ls 3 [(0, .ref g0), (1, .int (nI i)), (2, .int (nI 0))] := hl
  refine lv_aload_n hx hb dX1_level_0 rfl (lv_at hl 0 rfl) ?_
  refine lv_iload_n hx hb dX1_level_1 rfl (lv_at hl 1 rfl) ?_
  refine kv_if_lt (tgt := 22) hx hb (by omega) dX1_level_2 (by decide) ?_
  refine lv_iload_n hx hb dX1_level_5 rfl (lv_at hl 1 rfl) ?_
  refine lv_aload_n hx hb dX1_level_6 rfl (lv_at hl 0 rfl) ?_
  refine va_get (D := (dC, dI)) (ci := 1) (v := .int (nI n)) (C := RX1) (T := TX1) (N := 11) hx hb hts hin hown hK hP 0 rfl rfl 6 (by decide) (hts (.fieldLink RX1 29 "NestCellsModel" "levels" "I") (by decide +kernel)) (fun _ h9 => h9) rfl dX1_level_7 ?_
  refine kv_ge (tgt := 22) hx hb (by omega) (by omega) dX1_level_10 (by decide) (fun h10_0 => absurd h10_0 (by omega)) (fun h10_0 => ?_)
  refine lv_iload_n hx hb dX1_level_13 rfl (lv_at hl 2 rfl) ?_
  refine kv_if_lt (tgt := 22) hx hb (by omega) dX1_level_14 (by decide) ?_
  refine lv_iload_n hx hb dX1_level_17 rfl (lv_at hl 2 rfl) ?_
  refine lv_iconst (v := (nI 1)) hx hb dX1_level_18 (by decide) ?_
  refine kv_le (tgt := 26) hx hb (by omega) (by omega) dX1_level_19 (by decide) (fun h19_0 => ?_) (fun h19_0 => absurd h19_0 (by omega))
  refine lv_iconst (v := (nI 0)) hx hb dX1_level_26 (by decide) ?_
  refine kv_Vi (Xr := []) (n := 1) (c_X1_refuses_0 l dC dI cA g0 r1 r2 r3 r4 r5 ce w we wr nm n T cd off told wia  ) hx hb hml hown hts gX1_level_X1_refuses rfl ⟨rfl, rfl⟩ (by decide +kernel) rfl ⟨Nat.le_of_ble_eq_true rfl, Nat.le_of_ble_eq_true rfl⟩ hK hP hD hS hA [0] [0, 1, 2, 3, 4, 5] [] rfl rfl rfl (by decide) (by decide) (q0 := 0) rfl rfl rfl (by decide) hl.1 rfl (Nat.le_of_ble_eq_true rfl) dX1_level_27 ⟨Nat.zero_le _, Nat.zero_le _⟩ (fun H locs hP hD hS => ?_)
  have hP : va_P (dC, dI) vwCl (wX1 cA g0 r1 r2 r3 r4 r5 ce w we wr nm n T (nI 0) off told wia) H := hP
  have hD : va_D A (wX1 cA g0 r1 r2 r3 r4 r5 ce w we wr nm n T (nI 0) off told wia) := hD
  refine kv_if_eq (tgt := 37) hx hb (by omega) dX1_level_30 (by decide) (fun _ => ?_) (fun h9 => absurd h9 (by omega))
  refine lv_iload_n hx hb dX1_level_37 rfl (lv_at hl 2 rfl) ?_
  refine kv_if_ne (tgt := 53) hx hb (by omega) dX1_level_38 (by decide) (fun h9 => absurd h9 (by omega)) (fun _ => ?_)
  refine lv_aload_n hx hb dX1_level_41 rfl (lv_at hl 0 rfl) ?_
  refine va_get (D := (dC, dI)) (ci := 1) (v := .ref r4) (C := RX1) (T := TX1) (N := 11) hx hb hts hin hown hK hP 0 rfl rfl 4 (by decide) (hts (.fieldLink RX1 19 "NestCellsModel" "written" "[I") (by decide +kernel)) (fun _ h9 => h9) rfl dX1_level_42 ?_
  refine lv_iload_n hx hb dX1_level_45 rfl (lv_at hl 1 rfl) ?_
  refine kv_iald hx hb hK hP 4 0 rfl rfl (by omega) (by omega) dX1_level_46 ?_
  refine kv_Si (Xr := wX1 cA g0 r1 r2 r3 r4 r5 ce w we wr nm n T (nI 0) off told wia) (n := 1) (c_X1_bits l dC dI   (wr i) ) hx hb hml hown hts gX1_level_X1_bits rfl ⟨rfl, rfl⟩ (by decide +kernel) rfl ⟨Nat.le_of_ble_eq_true rfl, Nat.le_of_ble_eq_true rfl⟩ hK hP hD hS hA [] [] [0, 1, 2, 3, 4, 5] rfl rfl rfl (by decide) (by decide) rfl (by decide) hl.1 rfl (Nat.le_of_ble_eq_true rfl) dX1_level_47 ⟨Nat.zero_le _, Nat.zero_le _⟩ (fun H locs hP hD hS => ?_)
  have hP : va_P (dC, dI) vwCl (wX1 cA g0 r1 r2 r3 r4 r5 ce w we wr nm n T (nI 0) off told wia) H := hP
  have hD : va_D A (wX1 cA g0 r1 r2 r3 r4 r5 ce w we wr nm n T (nI 0) off told wia) := hD
  refine lv_goto (tgt := 59) hx hb dX1_level_50 (by decide) ?_
  exact kMi_ret hx hb hr hlocks hP hK hD hS dX1_level_59 rfl rfl
set_option maxHeartbeats 4000000 in
set_option maxRecDepth 100000 in
/-- NestCellsModel.level_1  -/
theorem c_X1_level_1 (l : Launch) (dC : Nat → ClassId) (dI : Nat → Nat → Nat) (cA : ClassId) (g0 r1 r2 r3 r4 r5 : Nat) (ce w we wr nm : Nat → Int32) (n T : Nat) (cd off told wia : Int32) (i : Nat) (hn : n ≤ 88) (hi : i < n) : kMi l yX1_level wsX1_level ({ frames := 1, cells := 0, slots := 0, locals := 22 }) dC dI [(cA, .int)] (wX1 cA g0 r1 r2 r3 r4 r5 ce w we wr nm n T cd off told wia) [.ref g0, .int (nI i), .int (nI 1)] (nm i) (wX1 cA g0 r1 r2 r3 r4 r5 ce w we wr nm n T (nI 0) off told wia) := by
  refine kMi_of (cc := cX1_level) (maxL := 3) (ret := (some .int)) (by decide) rfl (Nat.le_of_ble_eq_true rfl) ?_
  intro p e s m below meth c A ls hx hb hml hr hts hown hlocks hA hP hK hD hS hl
  have hin : ∀ w ∈ u_ws RX1 TX1 11, w ∈ wsX1_level := by decide +kernel
  have hl : lv_has ls 3 [(0, .ref g0), (1, .int (nI i)), (2, .int (nI 1))] := hl
  refine lv_aload_n hx hb dX1_level_0 rfl (lv_at hl 0 rfl) ?_
  refine lv_iload_n hx hb dX1_level_1 rfl (lv_at hl 1 rfl) ?_
  refine kv_if_lt (tgt := 22) hx hb (by omega) dX1_level_2 (by decide) ?_
  refine lv_iload_n hx hb dX1_level_5 rfl (lv_at hl 1 rfl) ?_
  refine lv_aload_n hx hb dX1_level_6 rfl (lv_at hl 0 rfl) ?_
  refine va_get (D := (dC, dI)) (ci := 1) (v := .int (nI n)) (C := RX1) (T := TX1) (N := 11) hx hb hts hin hown hK hP 0 rfl rfl 6 (by decide) (hts (.fieldLink RX1 29 "NestCellsModel" "levels" "I") (by decide +kernel)) (fun _ h9 => h9) rfl dX1_level_7 ?_
  refine kv_ge (tgt := 22) hx hb (by omega) (by omega) dX1_level_10 (by decide) (fun h10_0 => absurd h10_0 (by omega)) (fun h10_0 => ?_)
  refine lv_iload_n hx hb dX1_level_13 rfl (lv_at hl 2 rfl) ?_
  refine kv_if_lt (tgt := 22) hx hb (by omega) dX1_level_14 (by decide) ?_
  refine lv_iload_n hx hb dX1_level_17 rfl (lv_at hl 2 rfl) ?_
  refine lv_iconst (v := (nI 1)) hx hb dX1_level_18 (by decide) ?_
  refine kv_le (tgt := 26) hx hb (by omega) (by omega) dX1_level_19 (by decide) (fun h19_0 => ?_) (fun h19_0 => absurd h19_0 (by omega))
  refine lv_iconst (v := (nI 0)) hx hb dX1_level_26 (by decide) ?_
  refine kv_Vi (Xr := []) (n := 1) (c_X1_refuses_0 l dC dI cA g0 r1 r2 r3 r4 r5 ce w we wr nm n T cd off told wia  ) hx hb hml hown hts gX1_level_X1_refuses rfl ⟨rfl, rfl⟩ (by decide +kernel) rfl ⟨Nat.le_of_ble_eq_true rfl, Nat.le_of_ble_eq_true rfl⟩ hK hP hD hS hA [0] [0, 1, 2, 3, 4, 5] [] rfl rfl rfl (by decide) (by decide) (q0 := 0) rfl rfl rfl (by decide) hl.1 rfl (Nat.le_of_ble_eq_true rfl) dX1_level_27 ⟨Nat.zero_le _, Nat.zero_le _⟩ (fun H locs hP hD hS => ?_)
  have hP : va_P (dC, dI) vwCl (wX1 cA g0 r1 r2 r3 r4 r5 ce w we wr nm n T (nI 0) off told wia) H := hP
  have hD : va_D A (wX1 cA g0 r1 r2 r3 r4 r5 ce w we wr nm n T (nI 0) off told wia) := hD
  refine kv_if_eq (tgt := 37) hx hb (by omega) dX1_level_30 (by decide) (fun _ => ?_) (fun h9 => absurd h9 (by omega))
  refine lv_iload_n hx hb dX1_level_37 rfl (lv_at hl 2 rfl) ?_
  refine kv_if_ne (tgt := 53) hx hb (by omega) dX1_level_38 (by decide) (fun _ => ?_) (fun h9 => absurd h9 (by omega))
  refine lv_aload_n hx hb dX1_level_53 rfl (lv_at hl 0 rfl) ?_
  refine va_get (D := (dC, dI)) (ci := 1) (v := .ref r5) (C := RX1) (T := TX1) (N := 11) hx hb hts hin hown hK hP 0 rfl rfl 5 (by decide) (hts (.fieldLink RX1 22 "NestCellsModel" "names" "[I") (by decide +kernel)) (fun _ h9 => h9) rfl dX1_level_54 ?_
  refine lv_iload_n hx hb dX1_level_57 rfl (lv_at hl 1 rfl) ?_
  refine kv_iald hx hb hK hP 5 0 rfl rfl (by omega) (by omega) dX1_level_58 ?_
  exact kMi_ret hx hb hr hlocks hP hK hD hS dX1_level_59 rfl rfl
set_option maxHeartbeats 4000000 in
set_option maxRecDepth 100000 in
/-- NestCellsModel.about_x  -/
theorem c_X1_about_x (l : Launch) (dC : Nat → ClassId) (dI : Nat → Nat → Nat) (cA : ClassId) (g0 r1 r2 r3 r4 r5 : Nat) (ce w we wr nm : Nat → Int32) (n T : Nat) (cd off told wia : Int32) (what : Int32) (hw : what.toInt < 0 ∨ 6 < what.toInt) : kMi l yX1_about wsX1_about ({ frames := 2, cells := 0, slots := 0, locals := 44 }) dC dI [(cA, .int)] (wX1 cA g0 r1 r2 r3 r4 r5 ce w we wr nm n T cd off told wia) [.ref g0, .int what] (nI 0) (wX1 cA g0 r1 r2 r3 r4 r5 ce w we wr nm n T (nI 1) off told wia) := by
  refine kMi_of (cc := cX1_about) (maxL := 2) (ret := (some .int)) (by decide) rfl (Nat.le_of_ble_eq_true rfl) ?_
  intro p e s m below meth c A ls hx hb hml hr hts hown hlocks hA hP hK hD hS hl
  have hin : ∀ w ∈ u_ws RX1 TX1 11, w ∈ wsX1_about := by decide +kernel
  have hl : lv_has ls 2 [(0, .ref g0), (1, .int what)] := hl
  refine lv_aload_n hx hb dX1_about_0 rfl (lv_at hl 0 rfl) ?_
  refine lv_iload_n hx hb dX1_about_1 rfl (lv_at hl 1 rfl) ?_
  refine lv_if_lt (tgt := 11) hx hb dX1_about_2 (by decide) (fun h2_0 => ?_) (fun h2_0 => ?_)
  · skip
    refine lv_iconst (v := (nI 1)) hx hb dX1_about_11 (by decide) ?_
    refine lv_goto (tgt := 16) hx hb dX1_about_12 (by decide) ?_
    refine kv_Vi (Xr := []) (n := 1) (c_X1_refuses_1 l dC dI cA g0 r1 r2 r3 r4 r5 ce w we wr nm n T cd off told wia  ) hx hb hml hown hts gX1_about_X1_refuses rfl ⟨rfl, rfl⟩ (by decide +kernel) rfl ⟨Nat.le_of_ble_eq_true rfl, Nat.le_of_ble_eq_true rfl⟩ hK hP hD hS hA [0] [0, 1, 2, 3, 4, 5] [] rfl rfl rfl (by decide) (by decide) (q0 := 0) rfl rfl rfl (by decide) hl.1 rfl (Nat.le_of_ble_eq_true rfl) dX1_about_16 ⟨Nat.zero_le _, Nat.zero_le _⟩ (fun H locs hP hD hS => ?_)
    have hP : va_P (dC, dI) vwCl (wX1 cA g0 r1 r2 r3 r4 r5 ce w we wr nm n T (nI 1) off told wia) H := hP
    have hD : va_D A (wX1 cA g0 r1 r2 r3 r4 r5 ce w we wr nm n T (nI 1) off told wia) := hD
    refine kv_if_eq (tgt := 24) hx hb (by omega) dX1_about_19 (by decide) (fun h9 => absurd h9 (by omega)) (fun _ => ?_)
    refine lv_iconst (v := (nI 0)) hx hb dX1_about_22 (by decide) ?_
    exact kMi_ret hx hb hr hlocks hP hK hD hS dX1_about_23 rfl rfl
  · skip
    refine lv_iload_n hx hb dX1_about_5 rfl (lv_at hl 1 rfl) ?_
    refine lv_bipush (v := (nI 6)) hx hb dX1_about_6 (by decide) ?_
    refine lv_icmp_le (tgt := 15) hx hb dX1_about_8 (by decide) (fun h8_1 => (((rx_w6 h2_0 h8_1 hw)) : False).elim) (fun h8_1 => ?_)
    refine lv_iconst (v := (nI 1)) hx hb dX1_about_11 (by decide) ?_
    refine lv_goto (tgt := 16) hx hb dX1_about_12 (by decide) ?_
    refine kv_Vi (Xr := []) (n := 1) (c_X1_refuses_1 l dC dI cA g0 r1 r2 r3 r4 r5 ce w we wr nm n T cd off told wia  ) hx hb hml hown hts gX1_about_X1_refuses rfl ⟨rfl, rfl⟩ (by decide +kernel) rfl ⟨Nat.le_of_ble_eq_true rfl, Nat.le_of_ble_eq_true rfl⟩ hK hP hD hS hA [0] [0, 1, 2, 3, 4, 5] [] rfl rfl rfl (by decide) (by decide) (q0 := 0) rfl rfl rfl (by decide) hl.1 rfl (Nat.le_of_ble_eq_true rfl) dX1_about_16 ⟨Nat.zero_le _, Nat.zero_le _⟩ (fun H locs hP hD hS => ?_)
    have hP : va_P (dC, dI) vwCl (wX1 cA g0 r1 r2 r3 r4 r5 ce w we wr nm n T (nI 1) off told wia) H := hP
    have hD : va_D A (wX1 cA g0 r1 r2 r3 r4 r5 ce w we wr nm n T (nI 1) off told wia) := hD
    refine kv_if_eq (tgt := 24) hx hb (by omega) dX1_about_19 (by decide) (fun h9 => absurd h9 (by omega)) (fun _ => ?_)
    refine lv_iconst (v := (nI 0)) hx hb dX1_about_22 (by decide) ?_
    exact kMi_ret hx hb hr hlocks hP hK hD hS dX1_about_23 rfl rfl
set_option maxHeartbeats 4000000 in
set_option maxRecDepth 100000 in
/-- NestCellsModel.about_0  -/
theorem c_X1_about_0 (l : Launch) (dC : Nat → ClassId) (dI : Nat → Nat → Nat) (cA : ClassId) (g0 r1 r2 r3 r4 r5 : Nat) (ce w we wr nm : Nat → Int32) (n T : Nat) (cd off told wia : Int32)   : kMi l yX1_about wsX1_about ({ frames := 2, cells := 0, slots := 0, locals := 44 }) dC dI [(cA, .int)] (wX1 cA g0 r1 r2 r3 r4 r5 ce w we wr nm n T cd off told wia) [.ref g0, .int (nI 0)] (nI T) (wX1 cA g0 r1 r2 r3 r4 r5 ce w we wr nm n T (nI 0) off told wia) := by
  refine kMi_of (cc := cX1_about) (maxL := 2) (ret := (some .int)) (by decide) rfl (Nat.le_of_ble_eq_true rfl) ?_
  intro p e s m below meth c A ls hx hb hml hr hts hown hlocks hA hP hK hD hS hl
  have hin : ∀ w ∈ u_ws RX1 TX1 11, w ∈ wsX1_about := by decide +kernel
  have hl : lv_has ls 2 [(0, .ref g0), (1, .int (nI 0))] := hl
  refine lv_aload_n hx hb dX1_about_0 rfl (lv_at hl 0 rfl) ?_
  refine lv_iload_n hx hb dX1_about_1 rfl (lv_at hl 1 rfl) ?_
  refine kv_if_lt (tgt := 11) hx hb (by omega) dX1_about_2 (by decide) ?_
  refine lv_iload_n hx hb dX1_about_5 rfl (lv_at hl 1 rfl) ?_
  refine lv_bipush (v := (nI 6)) hx hb dX1_about_6 (by decide) ?_
  refine kv_le (tgt := 15) hx hb (by omega) (by omega) dX1_about_8 (by decide) (fun h8_0 => ?_) (fun h8_0 => absurd h8_0 (by omega))
  refine lv_iconst (v := (nI 0)) hx hb dX1_about_15 (by decide) ?_
  refine kv_Vi (Xr := []) (n := 1) (c_X1_refuses_0 l dC dI cA g0 r1 r2 r3 r4 r5 ce w we wr nm n T cd off told wia  ) hx hb hml hown hts gX1_about_X1_refuses rfl ⟨rfl, rfl⟩ (by decide +kernel) rfl ⟨Nat.le_of_ble_eq_true rfl, Nat.le_of_ble_eq_true rfl⟩ hK hP hD hS hA [0] [0, 1, 2, 3, 4, 5] [] rfl rfl rfl (by decide) (by decide) (q0 := 0) rfl rfl rfl (by decide) hl.1 rfl (Nat.le_of_ble_eq_true rfl) dX1_about_16 ⟨Nat.zero_le _, Nat.zero_le _⟩ (fun H locs hP hD hS => ?_)
  have hP : va_P (dC, dI) vwCl (wX1 cA g0 r1 r2 r3 r4 r5 ce w we wr nm n T (nI 0) off told wia) H := hP
  have hD : va_D A (wX1 cA g0 r1 r2 r3 r4 r5 ce w we wr nm n T (nI 0) off told wia) := hD
  refine kv_if_eq (tgt := 24) hx hb (by omega) dX1_about_19 (by decide) (fun _ => ?_) (fun h9 => absurd h9 (by omega))
  refine lv_iload_n hx hb dX1_about_24 rfl (lv_at hl 1 rfl) ?_
  refine lv_tableIn (off := 39) (tgt := 64) hx hb dX1_about_25 (by decide) (by decide) (by decide) (by decide) ?_
  refine lv_aload_n hx hb dX1_about_64 rfl (lv_at hl 0 rfl) ?_
  refine va_get (D := (dC, dI)) (ci := 1) (v := .int (nI T)) (C := RX1) (T := TX1) (N := 11) hx hb hts hin hown hK hP 0 rfl rfl 7 (by decide) (hts (.fieldLink RX1 36 "NestCellsModel" "transactions" "I") (by decide +kernel)) (fun _ h9 => h9) rfl dX1_about_65 ?_
  exact kMi_ret hx hb hr hlocks hP hK hD hS dX1_about_68 rfl rfl
set_option maxHeartbeats 4000000 in
set_option maxRecDepth 100000 in
/-- NestCellsModel.about_1  -/
theorem c_X1_about_1 (l : Launch) (dC : Nat → ClassId) (dI : Nat → Nat → Nat) (cA : ClassId) (g0 r1 r2 r3 r4 r5 : Nat) (ce w we wr nm : Nat → Int32) (n T : Nat) (cd off told wia : Int32)   : kMi l yX1_about wsX1_about ({ frames := 2, cells := 0, slots := 0, locals := 44 }) dC dI [(cA, .int)] (wX1 cA g0 r1 r2 r3 r4 r5 ce w we wr nm n T cd off told wia) [.ref g0, .int (nI 1)] (nI n) (wX1 cA g0 r1 r2 r3 r4 r5 ce w we wr nm n T (nI 0) off told wia) := by
  refine kMi_of (cc := cX1_about) (maxL := 2) (ret := (some .int)) (by decide) rfl (Nat.le_of_ble_eq_true rfl) ?_
  intro p e s m below meth c A ls hx hb hml hr hts hown hlocks hA hP hK hD hS hl
  have hin : ∀ w ∈ u_ws RX1 TX1 11, w ∈ wsX1_about := by decide +kernel
  have hl : lv_has ls 2 [(0, .ref g0), (1, .int (nI 1))] := hl
  refine lv_aload_n hx hb dX1_about_0 rfl (lv_at hl 0 rfl) ?_
  refine lv_iload_n hx hb dX1_about_1 rfl (lv_at hl 1 rfl) ?_
  refine kv_if_lt (tgt := 11) hx hb (by omega) dX1_about_2 (by decide) ?_
  refine lv_iload_n hx hb dX1_about_5 rfl (lv_at hl 1 rfl) ?_
  refine lv_bipush (v := (nI 6)) hx hb dX1_about_6 (by decide) ?_
  refine kv_le (tgt := 15) hx hb (by omega) (by omega) dX1_about_8 (by decide) (fun h8_0 => ?_) (fun h8_0 => absurd h8_0 (by omega))
  refine lv_iconst (v := (nI 0)) hx hb dX1_about_15 (by decide) ?_
  refine kv_Vi (Xr := []) (n := 1) (c_X1_refuses_0 l dC dI cA g0 r1 r2 r3 r4 r5 ce w we wr nm n T cd off told wia  ) hx hb hml hown hts gX1_about_X1_refuses rfl ⟨rfl, rfl⟩ (by decide +kernel) rfl ⟨Nat.le_of_ble_eq_true rfl, Nat.le_of_ble_eq_true rfl⟩ hK hP hD hS hA [0] [0, 1, 2, 3, 4, 5] [] rfl rfl rfl (by decide) (by decide) (q0 := 0) rfl rfl rfl (by decide) hl.1 rfl (Nat.le_of_ble_eq_true rfl) dX1_about_16 ⟨Nat.zero_le _, Nat.zero_le _⟩ (fun H locs hP hD hS => ?_)
  have hP : va_P (dC, dI) vwCl (wX1 cA g0 r1 r2 r3 r4 r5 ce w we wr nm n T (nI 0) off told wia) H := hP
  have hD : va_D A (wX1 cA g0 r1 r2 r3 r4 r5 ce w we wr nm n T (nI 0) off told wia) := hD
  refine kv_if_eq (tgt := 24) hx hb (by omega) dX1_about_19 (by decide) (fun _ => ?_) (fun h9 => absurd h9 (by omega))
  refine lv_iload_n hx hb dX1_about_24 rfl (lv_at hl 1 rfl) ?_
  refine lv_tableIn (off := 44) (tgt := 69) hx hb dX1_about_25 (by decide) (by decide) (by decide) (by decide) ?_
  refine lv_aload_n hx hb dX1_about_69 rfl (lv_at hl 0 rfl) ?_
  refine va_get (D := (dC, dI)) (ci := 1) (v := .int (nI n)) (C := RX1) (T := TX1) (N := 11) hx hb hts hin hown hK hP 0 rfl rfl 6 (by decide) (hts (.fieldLink RX1 29 "NestCellsModel" "levels" "I") (by decide +kernel)) (fun _ h9 => h9) rfl dX1_about_70 ?_
  exact kMi_ret hx hb hr hlocks hP hK hD hS dX1_about_73 rfl rfl
set_option maxHeartbeats 4000000 in
set_option maxRecDepth 100000 in
/-- NestCellsModel.about_2  -/
theorem c_X1_about_2 (l : Launch) (dC : Nat → ClassId) (dI : Nat → Nat → Nat) (cA : ClassId) (g0 r1 r2 r3 r4 r5 : Nat) (ce w we wr nm : Nat → Int32) (n T : Nat) (cd off told wia : Int32)  (hn : n ≤ 88) : kMi l yX1_about wsX1_about ({ frames := 2, cells := 0, slots := 0, locals := 44 }) dC dI [(cA, .int)] (wX1 cA g0 r1 r2 r3 r4 r5 ce w we wr nm n T cd off told wia) [.ref g0, .int (nI 2)] (nI (rx_tr wr n)) (wX1 cA g0 r1 r2 r3 r4 r5 ce w we wr nm n T (nI 0) off told wia) := by
  refine kMi_of (cc := cX1_about) (maxL := 2) (ret := (some .int)) (by decide) rfl (Nat.le_of_ble_eq_true rfl) ?_
  intro p e s m below meth c A ls hx hb hml hr hts hown hlocks hA hP hK hD hS hl
  have hin : ∀ w ∈ u_ws RX1 TX1 11, w ∈ wsX1_about := by decide +kernel
  have hl : lv_has ls 2 [(0, .ref g0), (1, .int (nI 2))] := hl
  refine lv_aload_n hx hb dX1_about_0 rfl (lv_at hl 0 rfl) ?_
  refine lv_iload_n hx hb dX1_about_1 rfl (lv_at hl 1 rfl) ?_
  refine kv_if_lt (tgt := 11) hx hb (by omega) dX1_about_2 (by decide) ?_
  refine lv_iload_n hx hb dX1_about_5 rfl (lv_at hl 1 rfl) ?_
  refine lv_bipush (v := (nI 6)) hx hb dX1_about_6 (by decide) ?_
  refine kv_le (tgt := 15) hx hb (by omega) (by omega) dX1_about_8 (by decide) (fun h8_0 => ?_) (fun h8_0 => absurd h8_0 (by omega))
  refine lv_iconst (v := (nI 0)) hx hb dX1_about_15 (by decide) ?_
  refine kv_Vi (Xr := []) (n := 1) (c_X1_refuses_0 l dC dI cA g0 r1 r2 r3 r4 r5 ce w we wr nm n T cd off told wia  ) hx hb hml hown hts gX1_about_X1_refuses rfl ⟨rfl, rfl⟩ (by decide +kernel) rfl ⟨Nat.le_of_ble_eq_true rfl, Nat.le_of_ble_eq_true rfl⟩ hK hP hD hS hA [0] [0, 1, 2, 3, 4, 5] [] rfl rfl rfl (by decide) (by decide) (q0 := 0) rfl rfl rfl (by decide) hl.1 rfl (Nat.le_of_ble_eq_true rfl) dX1_about_16 ⟨Nat.zero_le _, Nat.zero_le _⟩ (fun H locs hP hD hS => ?_)
  have hP : va_P (dC, dI) vwCl (wX1 cA g0 r1 r2 r3 r4 r5 ce w we wr nm n T (nI 0) off told wia) H := hP
  have hD : va_D A (wX1 cA g0 r1 r2 r3 r4 r5 ce w we wr nm n T (nI 0) off told wia) := hD
  refine kv_if_eq (tgt := 24) hx hb (by omega) dX1_about_19 (by decide) (fun _ => ?_) (fun h9 => absurd h9 (by omega))
  refine lv_iload_n hx hb dX1_about_24 rfl (lv_at hl 1 rfl) ?_
  refine lv_tableIn (off := 49) (tgt := 74) hx hb dX1_about_25 (by decide) (by decide) (by decide) (by decide) ?_
  refine lv_aload_n hx hb dX1_about_74 rfl (lv_at hl 0 rfl) ?_
  refine kv_Vi (Xr := []) (n := 0) (c_X1_traces l dC dI cA g0 r1 r2 r3 r4 r5 ce w we wr nm n T (nI 0) off told wia  (by omega)) hx hb hml hown hts gX1_about_X1_traces rfl ⟨rfl, rfl⟩ (by decide +kernel) rfl ⟨Nat.le_of_ble_eq_true rfl, Nat.le_of_ble_eq_true rfl⟩ hK hP hD hS hA [0] [0, 1, 2, 3, 4, 5] [] rfl rfl rfl (by decide) (by decide) (q0 := 0) rfl rfl rfl (by decide) hl.1 rfl (Nat.le_of_ble_eq_true rfl) dX1_about_75 ⟨Nat.zero_le _, Nat.zero_le _⟩ (fun H locs hP hD hS => ?_)
  have hP : va_P (dC, dI) vwCl (wX1 cA g0 r1 r2 r3 r4 r5 ce w we wr nm n T (nI 0) off told wia) H := hP
  have hD : va_D A (wX1 cA g0 r1 r2 r3 r4 r5 ce w we wr nm n T (nI 0) off told wia) := hD
  exact kMi_ret hx hb hr hlocks hP hK hD hS dX1_about_78 rfl rfl
set_option maxHeartbeats 4000000 in
set_option maxRecDepth 100000 in
/-- NestCellsModel.about_3  -/
theorem c_X1_about_3 (l : Launch) (dC : Nat → ClassId) (dI : Nat → Nat → Nat) (cA : ClassId) (g0 r1 r2 r3 r4 r5 : Nat) (ce w we wr nm : Nat → Int32) (n T : Nat) (cd off told wia : Int32)   : kMi l yX1_about wsX1_about ({ frames := 2, cells := 0, slots := 0, locals := 44 }) dC dI [(cA, .int)] (wX1 cA g0 r1 r2 r3 r4 r5 ce w we wr nm n T cd off told wia) [.ref g0, .int (nI 3)] told (wX1 cA g0 r1 r2 r3 r4 r5 ce w we wr nm n T (nI 0) off told wia) := by
  refine kMi_of (cc := cX1_about) (maxL := 2) (ret := (some .int)) (by decide) rfl (Nat.le_of_ble_eq_true rfl) ?_
  intro p e s m below meth c A ls hx hb hml hr hts hown hlocks hA hP hK hD hS hl
  have hin : ∀ w ∈ u_ws RX1 TX1 11, w ∈ wsX1_about := by decide +kernel
  have hl : lv_has ls 2 [(0, .ref g0), (1, .int (nI 3))] := hl
  refine lv_aload_n hx hb dX1_about_0 rfl (lv_at hl 0 rfl) ?_
  refine lv_iload_n hx hb dX1_about_1 rfl (lv_at hl 1 rfl) ?_
  refine kv_if_lt (tgt := 11) hx hb (by omega) dX1_about_2 (by decide) ?_
  refine lv_iload_n hx hb dX1_about_5 rfl (lv_at hl 1 rfl) ?_
  refine lv_bipush (v := (nI 6)) hx hb dX1_about_6 (by decide) ?_
  refine kv_le (tgt := 15) hx hb (by omega) (by omega) dX1_about_8 (by decide) (fun h8_0 => ?_) (fun h8_0 => absurd h8_0 (by omega))
  refine lv_iconst (v := (nI 0)) hx hb dX1_about_15 (by decide) ?_
  refine kv_Vi (Xr := []) (n := 1) (c_X1_refuses_0 l dC dI cA g0 r1 r2 r3 r4 r5 ce w we wr nm n T cd off told wia  ) hx hb hml hown hts gX1_about_X1_refuses rfl ⟨rfl, rfl⟩ (by decide +kernel) rfl ⟨Nat.le_of_ble_eq_true rfl, Nat.le_of_ble_eq_true rfl⟩ hK hP hD hS hA [0] [0, 1, 2, 3, 4, 5] [] rfl rfl rfl (by decide) (by decide) (q0 := 0) rfl rfl rfl (by decide) hl.1 rfl (Nat.le_of_ble_eq_true rfl) dX1_about_16 ⟨Nat.zero_le _, Nat.zero_le _⟩ (fun H locs hP hD hS => ?_)
  have hP : va_P (dC, dI) vwCl (wX1 cA g0 r1 r2 r3 r4 r5 ce w we wr nm n T (nI 0) off told wia) H := hP
  have hD : va_D A (wX1 cA g0 r1 r2 r3 r4 r5 ce w we wr nm n T (nI 0) off told wia) := hD
  refine kv_if_eq (tgt := 24) hx hb (by omega) dX1_about_19 (by decide) (fun _ => ?_) (fun h9 => absurd h9 (by omega))
  refine lv_iload_n hx hb dX1_about_24 rfl (lv_at hl 1 rfl) ?_
  refine lv_tableIn (off := 54) (tgt := 79) hx hb dX1_about_25 (by decide) (by decide) (by decide) (by decide) ?_
  refine lv_aload_n hx hb dX1_about_79 rfl (lv_at hl 0 rfl) ?_
  refine va_get (D := (dC, dI)) (ci := 1) (v := .int told) (C := RX1) (T := TX1) (N := 11) hx hb hts hin hown hK hP 0 rfl rfl 9 (by decide) (hts (.fieldLink RX1 43 "NestCellsModel" "told" "I") (by decide +kernel)) (fun _ h9 => h9) rfl dX1_about_80 ?_
  exact kMi_ret hx hb hr hlocks hP hK hD hS dX1_about_83 rfl rfl
set_option maxHeartbeats 4000000 in
set_option maxRecDepth 100000 in
/-- NestCellsModel.about_4  -/
theorem c_X1_about_4 (l : Launch) (dC : Nat → ClassId) (dI : Nat → Nat → Nat) (cA : ClassId) (g0 r1 r2 r3 r4 r5 : Nat) (ce w we wr nm : Nat → Int32) (n T : Nat) (cd off told wia : Int32)   : kMi l yX1_about wsX1_about ({ frames := 2, cells := 0, slots := 0, locals := 44 }) dC dI [(cA, .int)] (wX1 cA g0 r1 r2 r3 r4 r5 ce w we wr nm n T cd off told wia) [.ref g0, .int (nI 4)] wia (wX1 cA g0 r1 r2 r3 r4 r5 ce w we wr nm n T (nI 0) off told wia) := by
  refine kMi_of (cc := cX1_about) (maxL := 2) (ret := (some .int)) (by decide) rfl (Nat.le_of_ble_eq_true rfl) ?_
  intro p e s m below meth c A ls hx hb hml hr hts hown hlocks hA hP hK hD hS hl
  have hin : ∀ w ∈ u_ws RX1 TX1 11, w ∈ wsX1_about := by decide +kernel
  have hl : lv_has ls 2 [(0, .ref g0), (1, .int (nI 4))] := hl
  refine lv_aload_n hx hb dX1_about_0 rfl (lv_at hl 0 rfl) ?_
  refine lv_iload_n hx hb dX1_about_1 rfl (lv_at hl 1 rfl) ?_
  refine kv_if_lt (tgt := 11) hx hb (by omega) dX1_about_2 (by decide) ?_
  refine lv_iload_n hx hb dX1_about_5 rfl (lv_at hl 1 rfl) ?_
  refine lv_bipush (v := (nI 6)) hx hb dX1_about_6 (by decide) ?_
  refine kv_le (tgt := 15) hx hb (by omega) (by omega) dX1_about_8 (by decide) (fun h8_0 => ?_) (fun h8_0 => absurd h8_0 (by omega))
  refine lv_iconst (v := (nI 0)) hx hb dX1_about_15 (by decide) ?_
  refine kv_Vi (Xr := []) (n := 1) (c_X1_refuses_0 l dC dI cA g0 r1 r2 r3 r4 r5 ce w we wr nm n T cd off told wia  ) hx hb hml hown hts gX1_about_X1_refuses rfl ⟨rfl, rfl⟩ (by decide +kernel) rfl ⟨Nat.le_of_ble_eq_true rfl, Nat.le_of_ble_eq_true rfl⟩ hK hP hD hS hA [0] [0, 1, 2, 3, 4, 5] [] rfl rfl rfl (by decide) (by decide) (q0 := 0) rfl rfl rfl (by decide) hl.1 rfl (Nat.le_of_ble_eq_true rfl) dX1_about_16 ⟨Nat.zero_le _, Nat.zero_le _⟩ (fun H locs hP hD hS => ?_)
  have hP : va_P (dC, dI) vwCl (wX1 cA g0 r1 r2 r3 r4 r5 ce w we wr nm n T (nI 0) off told wia) H := hP
  have hD : va_D A (wX1 cA g0 r1 r2 r3 r4 r5 ce w we wr nm n T (nI 0) off told wia) := hD
  refine kv_if_eq (tgt := 24) hx hb (by omega) dX1_about_19 (by decide) (fun _ => ?_) (fun h9 => absurd h9 (by omega))
  refine lv_iload_n hx hb dX1_about_24 rfl (lv_at hl 1 rfl) ?_
  refine lv_tableIn (off := 59) (tgt := 84) hx hb dX1_about_25 (by decide) (by decide) (by decide) (by decide) ?_
  refine lv_aload_n hx hb dX1_about_84 rfl (lv_at hl 0 rfl) ?_
  refine va_get (D := (dC, dI)) (ci := 1) (v := .int wia) (C := RX1) (T := TX1) (N := 11) hx hb hts hin hown hK hP 0 rfl rfl 10 (by decide) (hts (.fieldLink RX1 46 "NestCellsModel" "writes" "I") (by decide +kernel)) (fun _ h9 => h9) rfl dX1_about_85 ?_
  exact kMi_ret hx hb hr hlocks hP hK hD hS dX1_about_88 rfl rfl
set_option maxHeartbeats 4000000 in
set_option maxRecDepth 100000 in
/-- NestCellsModel.about_5  -/
theorem c_X1_about_5 (l : Launch) (dC : Nat → ClassId) (dI : Nat → Nat → Nat) (cA : ClassId) (g0 r1 r2 r3 r4 r5 : Nat) (ce w we wr nm : Nat → Int32) (n T : Nat) (cd off told wia : Int32)   : kMi l yX1_about wsX1_about ({ frames := 2, cells := 0, slots := 0, locals := 44 }) dC dI [(cA, .int)] (wX1 cA g0 r1 r2 r3 r4 r5 ce w we wr nm n T cd off told wia) [.ref g0, .int (nI 5)] (if off = 0 then nI 0 else nI 1) (wX1 cA g0 r1 r2 r3 r4 r5 ce w we wr nm n T (nI 0) off told wia) := by
  refine kMi_of (cc := cX1_about) (maxL := 2) (ret := (some .int)) (by decide) rfl (Nat.le_of_ble_eq_true rfl) ?_
  intro p e s m below meth c A ls hx hb hml hr hts hown hlocks hA hP hK hD hS hl
  have hin : ∀ w ∈ u_ws RX1 TX1 11, w ∈ wsX1_about := by decide +kernel
  have hl : lv_has ls 2 [(0, .ref g0), (1, .int (nI 5))] := hl
  refine lv_aload_n hx hb dX1_about_0 rfl (lv_at hl 0 rfl) ?_
  refine lv_iload_n hx hb dX1_about_1 rfl (lv_at hl 1 rfl) ?_
  refine kv_if_lt (tgt := 11) hx hb (by omega) dX1_about_2 (by decide) ?_
  refine lv_iload_n hx hb dX1_about_5 rfl (lv_at hl 1 rfl) ?_
  refine lv_bipush (v := (nI 6)) hx hb dX1_about_6 (by decide) ?_
  refine kv_le (tgt := 15) hx hb (by omega) (by omega) dX1_about_8 (by decide) (fun h8_0 => ?_) (fun h8_0 => absurd h8_0 (by omega))
  refine lv_iconst (v := (nI 0)) hx hb dX1_about_15 (by decide) ?_
  refine kv_Vi (Xr := []) (n := 1) (c_X1_refuses_0 l dC dI cA g0 r1 r2 r3 r4 r5 ce w we wr nm n T cd off told wia  ) hx hb hml hown hts gX1_about_X1_refuses rfl ⟨rfl, rfl⟩ (by decide +kernel) rfl ⟨Nat.le_of_ble_eq_true rfl, Nat.le_of_ble_eq_true rfl⟩ hK hP hD hS hA [0] [0, 1, 2, 3, 4, 5] [] rfl rfl rfl (by decide) (by decide) (q0 := 0) rfl rfl rfl (by decide) hl.1 rfl (Nat.le_of_ble_eq_true rfl) dX1_about_16 ⟨Nat.zero_le _, Nat.zero_le _⟩ (fun H locs hP hD hS => ?_)
  have hP : va_P (dC, dI) vwCl (wX1 cA g0 r1 r2 r3 r4 r5 ce w we wr nm n T (nI 0) off told wia) H := hP
  have hD : va_D A (wX1 cA g0 r1 r2 r3 r4 r5 ce w we wr nm n T (nI 0) off told wia) := hD
  refine kv_if_eq (tgt := 24) hx hb (by omega) dX1_about_19 (by decide) (fun _ => ?_) (fun h9 => absurd h9 (by omega))
  refine lv_iload_n hx hb dX1_about_24 rfl (lv_at hl 1 rfl) ?_
  refine lv_tableIn (off := 64) (tgt := 89) hx hb dX1_about_25 (by decide) (by decide) (by decide) (by decide) ?_
  refine lv_aload_n hx hb dX1_about_89 rfl (lv_at hl 0 rfl) ?_
  refine va_get (D := (dC, dI)) (ci := 1) (v := .int off) (C := RX1) (T := TX1) (N := 11) hx hb hts hin hown hK hP 0 rfl rfl 8 (by decide) (hts (.fieldLink RX1 39 "NestCellsModel" "off" "Z") (by decide +kernel)) (fun _ h9 => h9) rfl dX1_about_90 ?_
  refine lv_if_eq (tgt := 100) hx hb dX1_about_93 (by decide) (fun h93_0 => ?_) (fun h93_0 => ?_)
  · skip
    refine lv_iconst (v := (nI 0)) hx hb dX1_about_100 (by decide) ?_
    exact kMi_ret hx hb hr hlocks hP hK hD hS dX1_about_101 (by simp [h93_0]) rfl
  · skip
    refine lv_iconst (v := (nI 1)) hx hb dX1_about_96 (by decide) ?_
    refine lv_goto (tgt := 101) hx hb dX1_about_97 (by decide) ?_
    exact kMi_ret hx hb hr hlocks hP hK hD hS dX1_about_101 (by simp [h93_0]) rfl
set_option maxHeartbeats 4000000 in
set_option maxRecDepth 100000 in
/-- NestCellsModel.about_6p  -/
theorem c_X1_about_6p (l : Launch) (dC : Nat → ClassId) (dI : Nat → Nat → Nat) (cA : ClassId) (g0 r1 r2 r3 r4 r5 : Nat) (ce w we wr nm : Nat → Int32) (n T : Nat) (cd off told wia : Int32)  (hT : 0 < T) (hT8 : T ≤ 8) (hn : n ≤ 88) (hj : 1 ≤ kx_inn nm n) : kMi l yX1_about wsX1_about ({ frames := 2, cells := 0, slots := 0, locals := 44 }) dC dI [(cA, .int)] (wX1 cA g0 r1 r2 r3 r4 r5 ce w we wr nm n T cd off told wia) [.ref g0, .int (nI 6)] (nI (n - kx_inn nm n)) (wX1 cA g0 r1 r2 r3 r4 r5 ce w we wr nm n T (nI 0) off told wia) := by
  refine kMi_of (cc := cX1_about) (maxL := 2) (ret := (some .int)) (by decide) rfl (Nat.le_of_ble_eq_true rfl) ?_
  intro p e s m below meth c A ls hx hb hml hr hts hown hlocks hA hP hK hD hS hl
  have hin : ∀ w ∈ u_ws RX1 TX1 11, w ∈ wsX1_about := by decide +kernel
  have hl : lv_has ls 2 [(0, .ref g0), (1, .int (nI 6))] := hl
  refine lv_aload_n hx hb dX1_about_0 rfl (lv_at hl 0 rfl) ?_
  refine lv_iload_n hx hb dX1_about_1 rfl (lv_at hl 1 rfl) ?_
  refine kv_if_lt (tgt := 11) hx hb (by omega) dX1_about_2 (by decide) ?_
  refine lv_iload_n hx hb dX1_about_5 rfl (lv_at hl 1 rfl) ?_
  refine lv_bipush (v := (nI 6)) hx hb dX1_about_6 (by decide) ?_
  refine kv_le (tgt := 15) hx hb (by omega) (by omega) dX1_about_8 (by decide) (fun h8_0 => ?_) (fun h8_0 => absurd h8_0 (by omega))
  refine lv_iconst (v := (nI 0)) hx hb dX1_about_15 (by decide) ?_
  refine kv_Vi (Xr := []) (n := 1) (c_X1_refuses_0 l dC dI cA g0 r1 r2 r3 r4 r5 ce w we wr nm n T cd off told wia  ) hx hb hml hown hts gX1_about_X1_refuses rfl ⟨rfl, rfl⟩ (by decide +kernel) rfl ⟨Nat.le_of_ble_eq_true rfl, Nat.le_of_ble_eq_true rfl⟩ hK hP hD hS hA [0] [0, 1, 2, 3, 4, 5] [] rfl rfl rfl (by decide) (by decide) (q0 := 0) rfl rfl rfl (by decide) hl.1 rfl (Nat.le_of_ble_eq_true rfl) dX1_about_16 ⟨Nat.zero_le _, Nat.zero_le _⟩ (fun H locs hP hD hS => ?_)
  have hP : va_P (dC, dI) vwCl (wX1 cA g0 r1 r2 r3 r4 r5 ce w we wr nm n T (nI 0) off told wia) H := hP
  have hD : va_D A (wX1 cA g0 r1 r2 r3 r4 r5 ce w we wr nm n T (nI 0) off told wia) := hD
  refine kv_if_eq (tgt := 24) hx hb (by omega) dX1_about_19 (by decide) (fun _ => ?_) (fun h9 => absurd h9 (by omega))
  refine lv_iload_n hx hb dX1_about_24 rfl (lv_at hl 1 rfl) ?_
  refine lv_tableOut (tgt := 102) hx hb dX1_about_25 (by decide) (by decide) ?_
  refine lv_aload_n hx hb dX1_about_102 rfl (lv_at hl 0 rfl) ?_
  refine kv_Vi (Xr := []) (n := 0) (c_X1_points_p l dC dI cA g0 r1 r2 r3 r4 r5 ce w we wr nm n T (nI 0) off told wia  hT hT8 hn hj) hx hb hml hown hts gX1_about_X1_points rfl ⟨rfl, rfl⟩ (by decide +kernel) rfl ⟨Nat.le_of_ble_eq_true rfl, Nat.le_of_ble_eq_true rfl⟩ hK hP hD hS hA [0] [0, 1, 2, 3, 4, 5] [] rfl rfl rfl (by decide) (by decide) (q0 := 0) rfl rfl rfl (by decide) hl.1 rfl (Nat.le_of_ble_eq_true rfl) dX1_about_103 ⟨Nat.zero_le _, Nat.zero_le _⟩ (fun H locs hP hD hS => ?_)
  have hP : va_P (dC, dI) vwCl (wX1 cA g0 r1 r2 r3 r4 r5 ce w we wr nm n T (nI 0) off told wia) H := hP
  have hD : va_D A (wX1 cA g0 r1 r2 r3 r4 r5 ce w we wr nm n T (nI 0) off told wia) := hD
  exact kMi_ret hx hb hr hlocks hP hK hD hS dX1_about_106 rfl rfl
set_option maxHeartbeats 4000000 in
set_option maxRecDepth 100000 in
/-- NestCellsModel.about_60  -/
theorem c_X1_about_60 (l : Launch) (dC : Nat → ClassId) (dI : Nat → Nat → Nat) (cA : ClassId) (g0 r1 r2 r3 r4 r5 : Nat) (ce w we wr nm : Nat → Int32) (n T : Nat) (cd off told wia : Int32)  (hT : T = 0) : kMi l yX1_about wsX1_about ({ frames := 2, cells := 0, slots := 0, locals := 44 }) dC dI [(cA, .int)] (wX1 cA g0 r1 r2 r3 r4 r5 ce w we wr nm n T cd off told wia) [.ref g0, .int (nI 6)] (nI 0) (wX1 cA g0 r1 r2 r3 r4 r5 ce w we wr nm n T (nI 0) off told wia) := by
  refine kMi_of (cc := cX1_about) (maxL := 2) (ret := (some .int)) (by decide) rfl (Nat.le_of_ble_eq_true rfl) ?_
  intro p e s m below meth c A ls hx hb hml hr hts hown hlocks hA hP hK hD hS hl
  have hin : ∀ w ∈ u_ws RX1 TX1 11, w ∈ wsX1_about := by decide +kernel
  have hl : lv_has ls 2 [(0, .ref g0), (1, .int (nI 6))] := hl
  refine lv_aload_n hx hb dX1_about_0 rfl (lv_at hl 0 rfl) ?_
  refine lv_iload_n hx hb dX1_about_1 rfl (lv_at hl 1 rfl) ?_
  refine kv_if_lt (tgt := 11) hx hb (by omega) dX1_about_2 (by decide) ?_
  refine lv_iload_n hx hb dX1_about_5 rfl (lv_at hl 1 rfl) ?_
  refine lv_bipush (v := (nI 6)) hx hb dX1_about_6 (by decide) ?_
  refine kv_le (tgt := 15) hx hb (by omega) (by omega) dX1_about_8 (by decide) (fun h8_0 => ?_) (fun h8_0 => absurd h8_0 (by omega))
  refine lv_iconst (v := (nI 0)) hx hb dX1_about_15 (by decide) ?_
  refine kv_Vi (Xr := []) (n := 1) (c_X1_refuses_0 l dC dI cA g0 r1 r2 r3 r4 r5 ce w we wr nm n T cd off told wia  ) hx hb hml hown hts gX1_about_X1_refuses rfl ⟨rfl, rfl⟩ (by decide +kernel) rfl ⟨Nat.le_of_ble_eq_true rfl, Nat.le_of_ble_eq_true rfl⟩ hK hP hD hS hA [0] [0, 1, 2, 3, 4, 5] [] rfl rfl rfl (by decide) (by decide) (q0 := 0) rfl rfl rfl (by decide) hl.1 rfl (Nat.le_of_ble_eq_true rfl) dX1_about_16 ⟨Nat.zero_le _, Nat.zero_le _⟩ (fun H locs hP hD hS => ?_)
  have hP : va_P (dC, dI) vwCl (wX1 cA g0 r1 r2 r3 r4 r5 ce w we wr nm n T (nI 0) off told wia) H := hP
  have hD : va_D A (wX1 cA g0 r1 r2 r3 r4 r5 ce w we wr nm n T (nI 0) off told wia) := hD
  refine kv_if_eq (tgt := 24) hx hb (by omega) dX1_about_19 (by decide) (fun _ => ?_) (fun h9 => absurd h9 (by omega))
  refine lv_iload_n hx hb dX1_about_24 rfl (lv_at hl 1 rfl) ?_
  refine lv_tableOut (tgt := 102) hx hb dX1_about_25 (by decide) (by decide) ?_
  refine lv_aload_n hx hb dX1_about_102 rfl (lv_at hl 0 rfl) ?_
  refine kv_Vi (Xr := []) (n := 0) (c_X1_points_0 l dC dI cA g0 r1 r2 r3 r4 r5 ce w we wr nm n T (nI 0) off told wia  hT) hx hb hml hown hts gX1_about_X1_points rfl ⟨rfl, rfl⟩ (by decide +kernel) rfl ⟨Nat.le_of_ble_eq_true rfl, Nat.le_of_ble_eq_true rfl⟩ hK hP hD hS hA [0] [0, 1, 2, 3, 4, 5] [] rfl rfl rfl (by decide) (by decide) (q0 := 0) rfl rfl rfl (by decide) hl.1 rfl (Nat.le_of_ble_eq_true rfl) dX1_about_103 ⟨Nat.zero_le _, Nat.zero_le _⟩ (fun H locs hP hD hS => ?_)
  have hP : va_P (dC, dI) vwCl (wX1 cA g0 r1 r2 r3 r4 r5 ce w we wr nm n T (nI 0) off told wia) H := hP
  have hD : va_D A (wX1 cA g0 r1 r2 r3 r4 r5 ce w we wr nm n T (nI 0) off told wia) := hD
  exact kMi_ret hx hb hr hlocks hP hK hD hS dX1_about_106 rfl rfl
