set_option maxHeartbeats 4000000 in
set_option maxRecDepth 100000 in
/-- NestCellsModel.puts_c  -/
theorem c_X1_puts_c (l : Launch) (dC : Nat → ClassId) (dI : Nat → Nat → Nat) (cA : ClassId) (g0 r1 r2 r3 r4 r5 : Nat) (ce w we wr nm : Nat → Int32) (n T : Nat) (cd off told wia : Int32) (i : Nat) (v : Int32) (hi : i < 98) (htd : told = nI 1) : kMi l yX1_puts wsX1_puts ({ frames := 0, cells := 0, slots := 0, locals := 0 }) dC dI [(cA, .int)] (wX1 cA g0 r1 r2 r3 r4 r5 ce w we wr nm n T cd off told wia) [.ref g0, .int (nI i), .int v] (nI 0) (wX1 cA g0 r1 r2 r3 r4 r5 ce w we wr nm 0 0 cd (nI 1) (nI 0) wia) := by
  refine kMi_of (cc := cX1_puts) (maxL := 3) (ret := (some .boolean)) (by decide) rfl (Nat.le_of_ble_eq_true rfl) ?_
  intro p e s m below meth c A ls hx hb hml hr hts hown hlocks hA hP hK hD hS hl
  have hin : ∀ w ∈ u_ws RX1 TX1 11, w ∈ wsX1_puts := by decide +kernel
  have hl : lv_has ls 3 [(0, .ref g0), (1, .int (nI i)), (2, .int v)] := hl
  refine lv_aload_n hx hb dX1_puts_0 rfl (lv_at hl 0 rfl) ?_
  refine va_get (D := (dC, dI)) (ci := 1) (v := .int told) (C := RX1) (T := TX1) (N := 11) hx hb hts hin hown hK hP 0 rfl rfl 9 (by decide) (hts (.fieldLink RX1 43 "NestCellsModel" "told" "I") (by decide +kernel)) (fun _ h9 => h9) rfl dX1_puts_1 ?_
  refine lv_iconst (v := (nI 1)) hx hb dX1_puts_4 (by decide) ?_
  refine lv_icmp_ne (tgt := 30) hx hb dX1_puts_5 (by decide) (fun h5_0 => absurd h5_0 (fun q => q htd)) (fun h5_0 => ?_)
  refine lv_aload_n hx hb dX1_puts_8 rfl (lv_at hl 0 rfl) ?_
  refine lv_iconst (v := (nI 0)) hx hb dX1_puts_9 (by decide) ?_
  refine va_put (D := (dC, dI)) (ci := 1) (v := .int (nI 0)) (ty := .int) (C := RX1) (T := TX1) (N := 11) hx hb hts hin tyX1 tyX1_ok nmX1 hown hK hP hD hS 0 rfl rfl 9 (by decide) (hts (.fieldLink RX1 43 "NestCellsModel" "told" "I") (by decide +kernel)) (fun _ h9 => h9) rfl (by decide +kernel) rfl rfl (Nat.le_of_ble_eq_true rfl) dX1_puts_10 (fun H locs hP hD hS => ?_)
  have hP : va_P (dC, dI) vwCl (wX1 cA g0 r1 r2 r3 r4 r5 ce w we wr nm n T cd off (nI 0) wia) H := hP
  have hD : va_D A (wX1 cA g0 r1 r2 r3 r4 r5 ce w we wr nm n T cd off (nI 0) wia) := hD
  refine lv_aload_n hx hb dX1_puts_13 rfl (lv_at hl 0 rfl) ?_
  refine lv_iconst (v := (nI 1)) hx hb dX1_puts_14 (by decide) ?_
  refine va_put (D := (dC, dI)) (ci := 1) (v := .int (nI 1)) (ty := .boolean) (C := RX1) (T := TX1) (N := 11) hx hb hts hin tyX1 tyX1_ok nmX1 hown hK hP hD hS 0 rfl rfl 8 (by decide) (hts (.fieldLink RX1 39 "NestCellsModel" "off" "Z") (by decide +kernel)) (fun _ h9 => h9) rfl (by decide +kernel) rfl rfl (Nat.le_of_ble_eq_true rfl) dX1_puts_15 (fun H locs hP hD hS => ?_)
  have hP : va_P (dC, dI) vwCl (wX1 cA g0 r1 r2 r3 r4 r5 ce w we wr nm n T cd (nI 1) (nI 0) wia) H := hP
  have hD : va_D A (wX1 cA g0 r1 r2 r3 r4 r5 ce w we wr nm n T cd (nI 1) (nI 0) wia) := hD
  refine lv_aload_n hx hb dX1_puts_18 rfl (lv_at hl 0 rfl) ?_
  refine lv_iconst (v := (nI 0)) hx hb dX1_puts_19 (by decide) ?_
  refine va_put (D := (dC, dI)) (ci := 1) (v := .int (nI 0)) (ty := .int) (C := RX1) (T := TX1) (N := 11) hx hb hts hin tyX1 tyX1_ok nmX1 hown hK hP hD hS 0 rfl rfl 6 (by decide) (hts (.fieldLink RX1 29 "NestCellsModel" "levels" "I") (by decide +kernel)) (fun _ h9 => h9) rfl (by decide +kernel) rfl rfl (Nat.le_of_ble_eq_true rfl) dX1_puts_20 (fun H locs hP hD hS => ?_)
  have hP : va_P (dC, dI) vwCl (wX1 cA g0 r1 r2 r3 r4 r5 ce w we wr nm 0 T cd (nI 1) (nI 0) wia) H := hP
  have hD : va_D A (wX1 cA g0 r1 r2 r3 r4 r5 ce w we wr nm 0 T cd (nI 1) (nI 0) wia) := hD
  refine lv_aload_n hx hb dX1_puts_23 rfl (lv_at hl 0 rfl) ?_
  refine lv_iconst (v := (nI 0)) hx hb dX1_puts_24 (by decide) ?_
  refine va_put (D := (dC, dI)) (ci := 1) (v := .int (nI 0)) (ty := .int) (C := RX1) (T := TX1) (N := 11) hx hb hts hin tyX1 tyX1_ok nmX1 hown hK hP hD hS 0 rfl rfl 7 (by decide) (hts (.fieldLink RX1 36 "NestCellsModel" "transactions" "I") (by decide +kernel)) (fun _ h9 => h9) rfl (by decide +kernel) rfl rfl (Nat.le_of_ble_eq_true rfl) dX1_puts_25 (fun H locs hP hD hS => ?_)
  have hP : va_P (dC, dI) vwCl (wX1 cA g0 r1 r2 r3 r4 r5 ce w we wr nm 0 0 cd (nI 1) (nI 0) wia) H := hP
  have hD : va_D A (wX1 cA g0 r1 r2 r3 r4 r5 ce w we wr nm 0 0 cd (nI 1) (nI 0) wia) := hD
  refine lv_iconst (v := (nI 0)) hx hb dX1_puts_28 (by decide) ?_
  exact kMi_zret hx hb hr hlocks hP hK hD hS dX1_puts_29 (by decide) rfl rfl
set_option maxHeartbeats 4000000 in
set_option maxRecDepth 100000 in
/-- NestCellsModel.puts_w  -/
theorem c_X1_puts_w (l : Launch) (dC : Nat → ClassId) (dI : Nat → Nat → Nat) (cA : ClassId) (g0 r1 r2 r3 r4 r5 : Nat) (ce w we wr nm : Nat → Int32) (n T : Nat) (cd off told wia : Int32) (i : Nat) (v : Int32) (hi : i < 98) (htd : ¬ told = nI 1) : kMi l yX1_puts wsX1_puts ({ frames := 0, cells := 0, slots := 0, locals := 0 }) dC dI [(cA, .int)] (wX1 cA g0 r1 r2 r3 r4 r5 ce w we wr nm n T cd off told wia) [.ref g0, .int (nI i), .int v] (nI 1) (wX1 cA g0 r1 r2 r3 r4 r5 ce (upd w i v) we wr nm n T cd off (rx_td told) (wia + nI 1)) := by
  refine kMi_of (cc := cX1_puts) (maxL := 3) (ret := (some .boolean)) (by decide) rfl (Nat.le_of_ble_eq_true rfl) ?_
  intro p e s m below meth c A ls hx hb hml hr hts hown hlocks hA hP hK hD hS hl
  have hin : ∀ w ∈ u_ws RX1 TX1 11, w ∈ wsX1_puts := by decide +kernel
  have hl : lv_has ls 3 [(0, .ref g0), (1, .int (nI i)), (2, .int v)] := hl
  refine lv_aload_n hx hb dX1_puts_0 rfl (lv_at hl 0 rfl) ?_
  refine va_get (D := (dC, dI)) (ci := 1) (v := .int told) (C := RX1) (T := TX1) (N := 11) hx hb hts hin hown hK hP 0 rfl rfl 9 (by decide) (hts (.fieldLink RX1 43 "NestCellsModel" "told" "I") (by decide +kernel)) (fun _ h9 => h9) rfl dX1_puts_1 ?_
  refine lv_iconst (v := (nI 1)) hx hb dX1_puts_4 (by decide) ?_
  refine lv_icmp_ne (tgt := 30) hx hb dX1_puts_5 (by decide) (fun h5_0 => ?_) (fun h5_0 => absurd h5_0 htd)
  refine lv_aload_n hx hb dX1_puts_30 rfl (lv_at hl 0 rfl) ?_
  refine lv_dup hx hb dX1_puts_31 rfl ?_
  refine va_get (D := (dC, dI)) (ci := 1) (v := .int told) (C := RX1) (T := TX1) (N := 11) hx hb hts hin hown hK hP 0 rfl rfl 9 (by decide) (hts (.fieldLink RX1 43 "NestCellsModel" "told" "I") (by decide +kernel)) (fun _ h9 => h9) rfl dX1_puts_32 ?_
  refine lv_aload_n hx hb dX1_puts_35 rfl (lv_at hl 0 rfl) ?_
  refine va_get (D := (dC, dI)) (ci := 1) (v := .int told) (C := RX1) (T := TX1) (N := 11) hx hb hts hin hown hK hP 0 rfl rfl 9 (by decide) (hts (.fieldLink RX1 43 "NestCellsModel" "told" "I") (by decide +kernel)) (fun _ h9 => h9) rfl dX1_puts_36 ?_
  refine lv_if_le (tgt := 46) hx hb dX1_puts_39 (by decide) (fun h39_0 => ?_) (fun h39_0 => ?_)
  · skip
    refine lv_iconst (v := (nI 0)) hx hb dX1_puts_46 (by decide) ?_
    refine lv_isub hx hb dX1_puts_47 ?_
    refine va_put (D := (dC, dI)) (ci := 1) (v := .int (told - (nI 0))) (ty := .int) (C := RX1) (T := TX1) (N := 11) hx hb hts hin tyX1 tyX1_ok nmX1 hown hK hP hD hS 0 rfl rfl 9 (by decide) (hts (.fieldLink RX1 43 "NestCellsModel" "told" "I") (by decide +kernel)) (fun _ h9 => h9) rfl (by decide +kernel) rfl rfl (Nat.le_of_ble_eq_true rfl) dX1_puts_48 (fun H locs hP hD hS => ?_)
    have hP : va_P (dC, dI) vwCl (wX1 cA g0 r1 r2 r3 r4 r5 ce w we wr nm n T cd off (told - (nI 0)) wia) H := hP
    have hD : va_D A (wX1 cA g0 r1 r2 r3 r4 r5 ce w we wr nm n T cd off (told - (nI 0)) wia) := hD
    have e9 : (told - (nI 0)) = rx_td told := rx_td_a h39_0
    have hP : va_P (dC, dI) vwCl (wX1 cA g0 r1 r2 r3 r4 r5 ce w we wr nm n T cd off (rx_td told) wia) H := by rw [← e9]; exact hP
    have hD : va_D A (wX1 cA g0 r1 r2 r3 r4 r5 ce w we wr nm n T cd off (rx_td told) wia) := by rw [← e9]; exact hD
    refine lv_aload_n hx hb dX1_puts_51 rfl (lv_at hl 0 rfl) ?_
    refine va_get (D := (dC, dI)) (ci := 1) (v := .ref r2) (C := RX1) (T := TX1) (N := 11) hx hb hts hin hown hK hP 0 rfl rfl 2 (by decide) (hts (.fieldLink RX1 13 "NestCellsModel" "disk" "[I") (by decide +kernel)) (fun _ h9 => h9) rfl dX1_puts_52 ?_
    refine lv_iload_n hx hb dX1_puts_55 rfl (lv_at hl 1 rfl) ?_
    refine lv_iload_n hx hb dX1_puts_56 rfl (lv_at hl 2 rfl) ?_
    refine kv_iast hx hb hK hP hD hS 2 0 rfl rfl (by omega) (by omega) dX1_puts_57 (fun H locs hP hD hS => ?_)
    have hP : va_P (dC, dI) vwCl (wX1 cA g0 r1 r2 r3 r4 r5 ce (upd w i v) we wr nm n T cd off (rx_td told) wia) H := hP
    have hD : va_D A (wX1 cA g0 r1 r2 r3 r4 r5 ce (upd w i v) we wr nm n T cd off (rx_td told) wia) := hD
    refine lv_aload_n hx hb dX1_puts_58 rfl (lv_at hl 0 rfl) ?_
    refine lv_dup hx hb dX1_puts_59 rfl ?_
    refine va_get (D := (dC, dI)) (ci := 1) (v := .int wia) (C := RX1) (T := TX1) (N := 11) hx hb hts hin hown hK hP 0 rfl rfl 10 (by decide) (hts (.fieldLink RX1 46 "NestCellsModel" "writes" "I") (by decide +kernel)) (fun _ h9 => h9) rfl dX1_puts_60 ?_
    refine lv_iconst (v := (nI 1)) hx hb dX1_puts_63 (by decide) ?_
    refine lv_iadd hx hb dX1_puts_64 ?_
    refine va_put (D := (dC, dI)) (ci := 1) (v := .int (wia + (nI 1))) (ty := .int) (C := RX1) (T := TX1) (N := 11) hx hb hts hin tyX1 tyX1_ok nmX1 hown hK hP hD hS 0 rfl rfl 10 (by decide) (hts (.fieldLink RX1 46 "NestCellsModel" "writes" "I") (by decide +kernel)) (fun _ h9 => h9) rfl (by decide +kernel) rfl rfl (Nat.le_of_ble_eq_true rfl) dX1_puts_65 (fun H locs hP hD hS => ?_)
    have hP : va_P (dC, dI) vwCl (wX1 cA g0 r1 r2 r3 r4 r5 ce (upd w i v) we wr nm n T cd off (rx_td told) (wia + (nI 1))) H := hP
    have hD : va_D A (wX1 cA g0 r1 r2 r3 r4 r5 ce (upd w i v) we wr nm n T cd off (rx_td told) (wia + (nI 1))) := hD
    refine lv_iconst (v := (nI 1)) hx hb dX1_puts_68 (by decide) ?_
    exact kMi_zret hx hb hr hlocks hP hK hD hS dX1_puts_69 (by decide) rfl rfl
  · skip
    refine lv_iconst (v := (nI 1)) hx hb dX1_puts_42 (by decide) ?_
    refine lv_goto (tgt := 47) hx hb dX1_puts_43 (by decide) ?_
    refine lv_isub hx hb dX1_puts_47 ?_
    refine va_put (D := (dC, dI)) (ci := 1) (v := .int (told - (nI 1))) (ty := .int) (C := RX1) (T := TX1) (N := 11) hx hb hts hin tyX1 tyX1_ok nmX1 hown hK hP hD hS 0 rfl rfl 9 (by decide) (hts (.fieldLink RX1 43 "NestCellsModel" "told" "I") (by decide +kernel)) (fun _ h9 => h9) rfl (by decide +kernel) rfl rfl (Nat.le_of_ble_eq_true rfl) dX1_puts_48 (fun H locs hP hD hS => ?_)
    have hP : va_P (dC, dI) vwCl (wX1 cA g0 r1 r2 r3 r4 r5 ce w we wr nm n T cd off (told - (nI 1)) wia) H := hP
    have hD : va_D A (wX1 cA g0 r1 r2 r3 r4 r5 ce w we wr nm n T cd off (told - (nI 1)) wia) := hD
    have e9 : (told - (nI 1)) = rx_td told := rx_td_b h39_0 htd
    have hP : va_P (dC, dI) vwCl (wX1 cA g0 r1 r2 r3 r4 r5 ce w we wr nm n T cd off (rx_td told) wia) H := by rw [← e9]; exact hP
    have hD : va_D A (wX1 cA g0 r1 r2 r3 r4 r5 ce w we wr nm n T cd off (rx_td told) wia) := by rw [← e9]; exact hD
    refine lv_aload_n hx hb dX1_puts_51 rfl (lv_at hl 0 rfl) ?_
    refine va_get (D := (dC, dI)) (ci := 1) (v := .ref r2) (C := RX1) (T := TX1) (N := 11) hx hb hts hin hown hK hP 0 rfl rfl 2 (by decide) (hts (.fieldLink RX1 13 "NestCellsModel" "disk" "[I") (by decide +kernel)) (fun _ h9 => h9) rfl dX1_puts_52 ?_
    refine lv_iload_n hx hb dX1_puts_55 rfl (lv_at hl 1 rfl) ?_
    refine lv_iload_n hx hb dX1_puts_56 rfl (lv_at hl 2 rfl) ?_
    refine kv_iast hx hb hK hP hD hS 2 0 rfl rfl (by omega) (by omega) dX1_puts_57 (fun H locs hP hD hS => ?_)
    have hP : va_P (dC, dI) vwCl (wX1 cA g0 r1 r2 r3 r4 r5 ce (upd w i v) we wr nm n T cd off (rx_td told) wia) H := hP
    have hD : va_D A (wX1 cA g0 r1 r2 r3 r4 r5 ce (upd w i v) we wr nm n T cd off (rx_td told) wia) := hD
    refine lv_aload_n hx hb dX1_puts_58 rfl (lv_at hl 0 rfl) ?_
    refine lv_dup hx hb dX1_puts_59 rfl ?_
    refine va_get (D := (dC, dI)) (ci := 1) (v := .int wia) (C := RX1) (T := TX1) (N := 11) hx hb hts hin hown hK hP 0 rfl rfl 10 (by decide) (hts (.fieldLink RX1 46 "NestCellsModel" "writes" "I") (by decide +kernel)) (fun _ h9 => h9) rfl dX1_puts_60 ?_
    refine lv_iconst (v := (nI 1)) hx hb dX1_puts_63 (by decide) ?_
    refine lv_iadd hx hb dX1_puts_64 ?_
    refine va_put (D := (dC, dI)) (ci := 1) (v := .int (wia + (nI 1))) (ty := .int) (C := RX1) (T := TX1) (N := 11) hx hb hts hin tyX1 tyX1_ok nmX1 hown hK hP hD hS 0 rfl rfl 10 (by decide) (hts (.fieldLink RX1 46 "NestCellsModel" "writes" "I") (by decide +kernel)) (fun _ h9 => h9) rfl (by decide +kernel) rfl rfl (Nat.le_of_ble_eq_true rfl) dX1_puts_65 (fun H locs hP hD hS => ?_)
    have hP : va_P (dC, dI) vwCl (wX1 cA g0 r1 r2 r3 r4 r5 ce (upd w i v) we wr nm n T cd off (rx_td told) (wia + (nI 1))) H := hP
    have hD : va_D A (wX1 cA g0 r1 r2 r3 r4 r5 ce (upd w i v) we wr nm n T cd off (rx_td told) (wia + (nI 1))) := hD
    refine lv_iconst (v := (nI 1)) hx hb dX1_puts_68 (by decide) ?_
    exact kMi_zret hx hb hr hlocks hP hK hD hS dX1_puts_69 (by decide) rfl rfl
set_option maxHeartbeats 4000000 in
set_option maxRecDepth 100000 in
/-- NestCellsModel.stores  -/
theorem c_X1_stores (l : Launch) (dC : Nat → ClassId) (dI : Nat → Nat → Nat) (cA : ClassId) (g0 r1 r2 r3 r4 r5 : Nat) (ce w we wr nm : Nat → Int32) (n T : Nat) (cd off told wia : Int32) (tr : Int32) (ho : off = 0) : kMi l yX1_stores wsX1_stores ({ frames := 1, cells := 0, slots := 0, locals := 22 }) dC dI [(cA, .int)] (wX1 cA g0 r1 r2 r3 r4 r5 ce w we wr nm n T cd off told wia) [.ref g0, .int tr] (if (kx_kd tr ce (w, told, wia, off)).2.2.2 = 0 then nI 1 else nI 0) (wX1 cA g0 r1 r2 r3 r4 r5 ce ((kx_kd tr ce (w, told, wia, off)).1) we wr nm (if (kx_kd tr ce (w, told, wia, off)).2.2.2 = 0 then n else 0) (if (kx_kd tr ce (w, told, wia, off)).2.2.2 = 0 then T else 0) cd ((kx_kd tr ce (w, told, wia, off)).2.2.2) ((kx_kd tr ce (w, told, wia, off)).2.1) ((kx_kd tr ce (w, told, wia, off)).2.2.1)) := by
  refine kMi_of (cc := cX1_stores) (maxL := 4) (ret := (some .boolean)) (by decide) rfl (Nat.le_of_ble_eq_true rfl) ?_
  intro p e s m below meth c A ls hx hb hml hr hts hown hlocks hA hP hK hD hS hl
  have hin : ∀ w ∈ u_ws RX1 TX1 11, w ∈ wsX1_stores := by decide +kernel
  have hl : lv_has ls 4 [(0, .ref g0), (1, .int tr)] := hl
  refine lv_iconst (v := (nI 0)) hx hb dX1_stores_0 (by decide) ?_
  refine lv_istore_n (lv' := [(2, .int (nI 0)), (0, .ref g0), (1, .int tr)]) hx hb dX1_stores_1 rfl hl (by decide) rfl (fun ls hl => ?_)
  refine lv_iconst (v := (nI 0)) hx hb dX1_stores_2 (by decide) ?_
  refine lv_istore_n (lv' := [(3, .int (nI 0)), (2, .int (nI 0)), (0, .ref g0), (1, .int tr)]) hx hb dX1_stores_3 rfl hl (by decide) rfl (fun ls hl => ?_)
  have hP : va_P (dC, dI) vwCl (wX1 cA g0 r1 r2 r3 r4 r5 ce (((kx_we tr ce (w, told, wia, off) 0).1).1) we wr nm n T cd (((kx_we tr ce (w, told, wia, off) 0).1).2.2.2) (((kx_we tr ce (w, told, wia, off) 0).1).2.1) (((kx_we tr ce (w, told, wia, off) 0).1).2.2.1)) s.heap := by exact hP
  have hD : va_D A (wX1 cA g0 r1 r2 r3 r4 r5 ce (((kx_we tr ce (w, told, wia, off) 0).1).1) we wr nm n T cd (((kx_we tr ce (w, told, wia, off) 0).1).2.2.2) (((kx_we tr ce (w, told, wia, off) 0).1).2.1) (((kx_we tr ce (w, told, wia, off) 0).1).2.2.1)) := by exact hD
  have hl : lv_has ls 4 [(3, .int (nI 0)), (2, .int (nI (mo_bits tr 0))), (0, .ref g0), (1, .int tr)] := by exact hl
  have lp : ∀ (k : Nat) (t : Nat), ∀ (_ : t + k = 32), ∀ (_ : (kx_we tr ce (w, told, wia, off) t).1.2.2.2 = 0), ∀ (H : Heap) (locs : List Loc) (ls : Array Slot), va_P (dC, dI) vwCl (wX1 cA g0 r1 r2 r3 r4 r5 ce (((kx_we tr ce (w, told, wia, off) t).1).1) we wr nm n T cd (((kx_we tr ce (w, told, wia, off) t).1).2.2.2) (((kx_we tr ce (w, told, wia, off) t).1).2.1) (((kx_we tr ce (w, told, wia, off) t).1).2.2.1)) H → va_D A (wX1 cA g0 r1 r2 r3 r4 r5 ce (((kx_we tr ce (w, told, wia, off) t).1).1) we wr nm n T cd (((kx_we tr ce (w, told, wia, off) t).1).2.2.2) (((kx_we tr ce (w, told, wia, off) t).1).2.1) (((kx_we tr ce (w, told, wia, off) t).1).2.2.1)) → va_S A s.heap H locs → lv_has ls 4 [(0, .ref g0), (1, .int tr), (2, .int (nI (mo_bits tr t))), (3, .int (nI t))] → W p l e (headSpec wsX1_stores ({ frames := 1, cells := 0, slots := 0, locals := 22 })).room s m ([.ref g0, .int tr] : List Value).toArray below meth c H locs 0 0 (MQ below (va_Qi (fun (r' : Int32) (_ : Unit) => r' = (if (kx_kd tr ce (w, told, wia, off)).2.2.2 = 0 then nI 1 else nI 0)) (kB dC dI [(cA, .int)] (wX1 cA g0 r1 r2 r3 r4 r5 ce ((kx_kd tr ce (w, told, wia, off)).1) we wr nm (if (kx_kd tr ce (w, told, wia, off)).2.2.2 = 0 then n else 0) (if (kx_kd tr ce (w, told, wia, off)).2.2.2 = 0 then T else 0) cd ((kx_kd tr ce (w, told, wia, off)).2.2.2) ((kx_kd tr ce (w, told, wia, off)).2.1) ((kx_kd tr ce (w, told, wia, off)).2.2.1)) A) A) ([.ref g0, .int tr] : List Value).toArray s 0 0 A) (F0 m 4 ls []) := by
    intro k
    induction k with
    | zero =>
      intro t ht hf H locs ls hP hD hS hl
      refine lv_iload_n hx hb dX1_stores_4 rfl (lv_at hl 3 rfl) ?_
      refine lv_bipush (v := (nI 32)) hx hb dX1_stores_5 (by decide) ?_
      refine kv_ge (tgt := 65) hx hb (by omega) (by omega) dX1_stores_7 (by decide) (fun h7_0 => ?_) (fun h7_0 => absurd h7_0 (by omega))
      have htt : t = 32 := by omega
      rw [htt] at hP hD hl hf
      have hP : va_P (dC, dI) vwCl (wX1 cA g0 r1 r2 r3 r4 r5 ce ((kx_k1 tr ce (w, told, wia, off)).1) we wr nm n T cd ((kx_k1 tr ce (w, told, wia, off)).2.2.2) ((kx_k1 tr ce (w, told, wia, off)).2.1) ((kx_k1 tr ce (w, told, wia, off)).2.2.1)) H := by exact hP
      have hD : va_D A (wX1 cA g0 r1 r2 r3 r4 r5 ce ((kx_k1 tr ce (w, told, wia, off)).1) we wr nm n T cd ((kx_k1 tr ce (w, told, wia, off)).2.2.2) ((kx_k1 tr ce (w, told, wia, off)).2.1) ((kx_k1 tr ce (w, told, wia, off)).2.2.1)) := by exact hD
      have hl : lv_has ls 4 [(0, .ref g0), (1, .int tr), (2, .int (nI (mo_bits tr 32))), (3, .int (nI 32))] := by exact hl
      have hf1 : (kx_k1 tr ce (w, told, wia, off)).2.2.2 = 0 := hf
      have hmb := mo_bits_le tr 32
      obtain ⟨D1, hD1⟩ : ∃ D1, D1 = kx_k1 tr ce (w, told, wia, off) := ⟨_, rfl⟩
      rw [← hD1] at hP hD hf1
      have hP : va_P (dC, dI) vwCl (wX1 cA g0 r1 r2 r3 r4 r5 ce ((D1).1) we wr nm n T cd ((D1).2.2.2) ((D1).2.1) ((D1).2.2.1)) H := by exact hP
      have hD : va_D A (wX1 cA g0 r1 r2 r3 r4 r5 ce ((D1).1) we wr nm n T cd ((D1).2.2.2) ((D1).2.1) ((D1).2.2.1)) := by exact hD
      have hk2 : kx_k2 tr ce (w, told, wia, off) = kx_pw D1 33 (D1.1 33 + nI 1) := by rw [hD1]; rfl
      refine lv_aload_n hx hb dX1_stores_65 rfl (lv_at hl 0 rfl) ?_
      refine lv_bipush (v := (nI 33)) hx hb dX1_stores_66 (by decide) ?_
      refine lv_aload_n hx hb dX1_stores_68 rfl (lv_at hl 0 rfl) ?_
      refine va_get (D := (dC, dI)) (ci := 1) (v := .ref r2) (C := RX1) (T := TX1) (N := 11) hx hb hts hin hown hK hP 0 rfl rfl 2 (by decide) (hts (.fieldLink RX1 13 "NestCellsModel" "disk" "[I") (by decide +kernel)) (fun _ h9 => h9) rfl dX1_stores_69 ?_
      refine lv_bipush (v := (nI 33)) hx hb dX1_stores_72 (by decide) ?_
      refine kv_iald hx hb hK hP 2 0 rfl rfl (by omega) (by omega) dX1_stores_74 ?_
      refine lv_iconst (v := (nI 1)) hx hb dX1_stores_75 (by decide) ?_
      refine lv_iadd hx hb dX1_stores_76 ?_
      by_cases hb77 : ((D1).2.1) = nI 1
      · skip
        have e2 : kx_k2 tr ce (w, told, wia, off) = (D1.1, nI 0, D1.2.2.1, nI 1) := by rw [hk2]; exact rx_pw_c (w := D1.1) hf1 hb77
        have e3 : kx_kd tr ce (w, told, wia, off) = (D1.1, nI 0, D1.2.2.1, nI 1) := by rw [rx_kd_k2 (by rw [e2]; exact kv_n10), e2]
        refine kv_Vi (Xr := []) (n := 2) (c_X1_puts_c l dC dI cA g0 r1 r2 r3 r4 r5 ce ((D1).1) we wr nm n T cd ((D1).2.2.2) ((D1).2.1) ((D1).2.2.1) 33 ((((D1).1) 33) + (nI 1)) (by omega) hb77) hx hb hml hown hts gX1_stores_X1_puts rfl ⟨rfl, rfl⟩ (by decide +kernel) rfl ⟨Nat.le_of_ble_eq_true rfl, Nat.le_of_ble_eq_true rfl⟩ hK hP hD hS hA [0] [0, 1, 2, 3, 4, 5] [] rfl rfl rfl (by decide) (by decide) (q0 := 0) rfl rfl rfl (by decide) hl.1 rfl (Nat.le_of_ble_eq_true rfl) dX1_stores_77 ⟨Nat.zero_le _, Nat.zero_le _⟩ (fun H locs hP hD hS => ?_)
        have hP : va_P (dC, dI) vwCl (wX1 cA g0 r1 r2 r3 r4 r5 ce ((D1).1) we wr nm 0 0 cd (nI 1) (nI 0) ((D1).2.2.1)) H := hP
        have hD : va_D A (wX1 cA g0 r1 r2 r3 r4 r5 ce ((D1).1) we wr nm 0 0 cd (nI 1) (nI 0) ((D1).2.2.1)) := hD
        refine kv_if_ne (tgt := 85) hx hb (by omega) dX1_stores_80 (by decide) (fun h9 => absurd h9 (by omega)) (fun _ => ?_)
        refine lv_iconst (v := (nI 0)) hx hb dX1_stores_83 (by decide) ?_
        exact kMi_zret hx hb hr hlocks hP hK hD hS dX1_stores_84 (by decide) (by rw [e3]; rfl) (by rw [e3]; rfl)
      · skip
        have e2 : kx_k2 tr ce (w, told, wia, off) = (upd D1.1 33 (D1.1 33 + nI 1), rx_td D1.2.1, D1.2.2.1 + nI 1, D1.2.2.2) := by rw [hk2]; exact rx_pw_w (w := D1.1) hf1 hb77
        refine kv_Vi (Xr := []) (n := 2) (c_X1_puts_w l dC dI cA g0 r1 r2 r3 r4 r5 ce ((D1).1) we wr nm n T cd ((D1).2.2.2) ((D1).2.1) ((D1).2.2.1) 33 ((((D1).1) 33) + (nI 1)) (by omega) hb77) hx hb hml hown hts gX1_stores_X1_puts rfl ⟨rfl, rfl⟩ (by decide +kernel) rfl ⟨Nat.le_of_ble_eq_true rfl, Nat.le_of_ble_eq_true rfl⟩ hK hP hD hS hA [0] [0, 1, 2, 3, 4, 5] [] rfl rfl rfl (by decide) (by decide) (q0 := 0) rfl rfl rfl (by decide) hl.1 rfl (Nat.le_of_ble_eq_true rfl) dX1_stores_77 ⟨Nat.zero_le _, Nat.zero_le _⟩ (fun H locs hP hD hS => ?_)
        have hP : va_P (dC, dI) vwCl (wX1 cA g0 r1 r2 r3 r4 r5 ce (upd ((D1).1) 33 ((((D1).1) 33) + (nI 1))) we wr nm n T cd ((D1).2.2.2) (rx_td ((D1).2.1)) (((D1).2.2.1) + nI 1)) H := hP
        have hD : va_D A (wX1 cA g0 r1 r2 r3 r4 r5 ce (upd ((D1).1) 33 ((((D1).1) 33) + (nI 1))) we wr nm n T cd ((D1).2.2.2) (rx_td ((D1).2.1)) (((D1).2.2.1) + nI 1)) := hD
        obtain ⟨D2, hD2⟩ : ∃ D2, D2 = kx_k2 tr ce (w, told, wia, off) := ⟨_, rfl⟩
        have hP : va_P (dC, dI) vwCl (wX1 cA g0 r1 r2 r3 r4 r5 ce ((D2).1) we wr nm n T cd ((D2).2.2.2) ((D2).2.1) ((D2).2.2.1)) H := by rw [hD2, e2]; exact hP
        have hD : va_D A (wX1 cA g0 r1 r2 r3 r4 r5 ce ((D2).1) we wr nm n T cd ((D2).2.2.2) ((D2).2.1) ((D2).2.2.1)) := by rw [hD2, e2]; exact hD
        have hf2 : D2.2.2.2 = 0 := by rw [hD2, e2]; exact hf1
        refine kv_if_ne (tgt := 85) hx hb (by omega) dX1_stores_80 (by decide) (fun _ => ?_) (fun h9 => absurd h9 (by omega))
        refine lv_iload_n hx hb dX1_stores_85 rfl (lv_at hl 2 rfl) ?_
        refine kv_if_ne (tgt := 91) hx hb (by omega) dX1_stores_86 (by decide) (fun h86_1 => ?_) (fun h86_1 => ?_)
        · skip
          have hpos : 0 < mo_bits tr 32 := by omega
          have hk3 : kx_kd tr ce (w, told, wia, off) = kx_pw (kx_wh tr ce (kx_pw D2 32 (nI (mo_bits tr 32))) 32) 32 (nI 0) := by rw [hD2]; exact rx_kd_n hpos
          refine lv_aload_n hx hb dX1_stores_91 rfl (lv_at hl 0 rfl) ?_
          refine lv_bipush (v := (nI 32)) hx hb dX1_stores_92 (by decide) ?_
          refine lv_iload_n hx hb dX1_stores_94 rfl (lv_at hl 2 rfl) ?_
          by_cases hb95 : ((D2).2.1) = nI 1
          · skip
            have e3 : kx_pw D2 32 (nI (mo_bits tr 32)) = (D2.1, nI 0, D2.2.2.1, nI 1) := rx_pw_c (w := D2.1) hf2 hb95
            have e4 : kx_kd tr ce (w, told, wia, off) = (D2.1, nI 0, D2.2.2.1, nI 1) := by rw [rx_kd_m hpos (by rw [← hD2, e3]; exact kv_n10), ← hD2, e3]
            refine kv_Vi (Xr := []) (n := 2) (c_X1_puts_c l dC dI cA g0 r1 r2 r3 r4 r5 ce ((D2).1) we wr nm n T cd ((D2).2.2.2) ((D2).2.1) ((D2).2.2.1) 32 (nI (mo_bits tr 32)) (by omega) hb95) hx hb hml hown hts gX1_stores_X1_puts rfl ⟨rfl, rfl⟩ (by decide +kernel) rfl ⟨Nat.le_of_ble_eq_true rfl, Nat.le_of_ble_eq_true rfl⟩ hK hP hD hS hA [0] [0, 1, 2, 3, 4, 5] [] rfl rfl rfl (by decide) (by decide) (q0 := 0) rfl rfl rfl (by decide) hl.1 rfl (Nat.le_of_ble_eq_true rfl) dX1_stores_95 ⟨Nat.zero_le _, Nat.zero_le _⟩ (fun H locs hP hD hS => ?_)
            have hP : va_P (dC, dI) vwCl (wX1 cA g0 r1 r2 r3 r4 r5 ce ((D2).1) we wr nm 0 0 cd (nI 1) (nI 0) ((D2).2.2.1)) H := hP
            have hD : va_D A (wX1 cA g0 r1 r2 r3 r4 r5 ce ((D2).1) we wr nm 0 0 cd (nI 1) (nI 0) ((D2).2.2.1)) := hD
            refine kv_if_ne (tgt := 103) hx hb (by omega) dX1_stores_98 (by decide) (fun h9 => absurd h9 (by omega)) (fun _ => ?_)
            refine lv_iconst (v := (nI 0)) hx hb dX1_stores_101 (by decide) ?_
            exact kMi_zret hx hb hr hlocks hP hK hD hS dX1_stores_102 (by decide) (by rw [e4]; rfl) (by rw [e4]; rfl)
          · skip
            have e3 : kx_pw D2 32 (nI (mo_bits tr 32)) = (upd D2.1 32 (nI (mo_bits tr 32)), rx_td D2.2.1, D2.2.2.1 + nI 1, D2.2.2.2) := rx_pw_w (w := D2.1) hf2 hb95
            refine kv_Vi (Xr := []) (n := 2) (c_X1_puts_w l dC dI cA g0 r1 r2 r3 r4 r5 ce ((D2).1) we wr nm n T cd ((D2).2.2.2) ((D2).2.1) ((D2).2.2.1) 32 (nI (mo_bits tr 32)) (by omega) hb95) hx hb hml hown hts gX1_stores_X1_puts rfl ⟨rfl, rfl⟩ (by decide +kernel) rfl ⟨Nat.le_of_ble_eq_true rfl, Nat.le_of_ble_eq_true rfl⟩ hK hP hD hS hA [0] [0, 1, 2, 3, 4, 5] [] rfl rfl rfl (by decide) (by decide) (q0 := 0) rfl rfl rfl (by decide) hl.1 rfl (Nat.le_of_ble_eq_true rfl) dX1_stores_95 ⟨Nat.zero_le _, Nat.zero_le _⟩ (fun H locs hP hD hS => ?_)
            have hP : va_P (dC, dI) vwCl (wX1 cA g0 r1 r2 r3 r4 r5 ce (upd ((D2).1) 32 (nI (mo_bits tr 32))) we wr nm n T cd ((D2).2.2.2) (rx_td ((D2).2.1)) (((D2).2.2.1) + nI 1)) H := hP
            have hD : va_D A (wX1 cA g0 r1 r2 r3 r4 r5 ce (upd ((D2).1) 32 (nI (mo_bits tr 32))) we wr nm n T cd ((D2).2.2.2) (rx_td ((D2).2.1)) (((D2).2.2.1) + nI 1)) := hD
            obtain ⟨D3, hD3⟩ : ∃ D3, D3 = kx_pw D2 32 (nI (mo_bits tr 32)) := ⟨_, rfl⟩
            have hP : va_P (dC, dI) vwCl (wX1 cA g0 r1 r2 r3 r4 r5 ce ((D3).1) we wr nm n T cd ((D3).2.2.2) ((D3).2.1) ((D3).2.2.1)) H := by rw [hD3, e3]; exact hP
            have hD : va_D A (wX1 cA g0 r1 r2 r3 r4 r5 ce ((D3).1) we wr nm n T cd ((D3).2.2.2) ((D3).2.1) ((D3).2.2.1)) := by rw [hD3, e3]; exact hD
            have hf3 : D3.2.2.2 = 0 := by rw [hD3, e3]; exact hf2
            rw [← hD3] at hk3
            have hk4 : ∀ (t : Nat), t ≤ 32 → ¬ (kx_wh tr ce D3 t).2.2.2 = 0 → kx_kd tr ce (w, told, wia, off) = kx_wh tr ce D3 t := fun t ht h => by rw [hD3, hD2] at h ⊢; exact rx_kd_h ht hpos h
            refine kv_if_ne (tgt := 103) hx hb (by omega) dX1_stores_98 (by decide) (fun _ => ?_) (fun h9 => absurd h9 (by omega))
            refine lv_iconst (v := (nI 0)) hx hb dX1_stores_103 (by decide) ?_
            refine lv_istore_n (lv' := [(3, .int (nI 0)), (0, .ref g0), (1, .int tr), (2, .int (nI (mo_bits tr 32)))]) hx hb dX1_stores_104 rfl hl (by decide) rfl (fun ls hl => ?_)
            have hP : va_P (dC, dI) vwCl (wX1 cA g0 r1 r2 r3 r4 r5 ce ((kx_wh tr ce D3 0).1) we wr nm n T cd ((kx_wh tr ce D3 0).2.2.2) ((kx_wh tr ce D3 0).2.1) ((kx_wh tr ce D3 0).2.2.1)) H := by exact hP
            have hD : va_D A (wX1 cA g0 r1 r2 r3 r4 r5 ce ((kx_wh tr ce D3 0).1) we wr nm n T cd ((kx_wh tr ce D3 0).2.2.2) ((kx_wh tr ce D3 0).2.1) ((kx_wh tr ce D3 0).2.2.1)) := by exact hD
            have lp : ∀ (k : Nat) (t : Nat), ∀ (_ : t + k = 32), ∀ (_ : (kx_wh tr ce D3 t).2.2.2 = 0), ∀ (H : Heap) (locs : List Loc) (ls : Array Slot), va_P (dC, dI) vwCl (wX1 cA g0 r1 r2 r3 r4 r5 ce ((kx_wh tr ce D3 t).1) we wr nm n T cd ((kx_wh tr ce D3 t).2.2.2) ((kx_wh tr ce D3 t).2.1) ((kx_wh tr ce D3 t).2.2.1)) H → va_D A (wX1 cA g0 r1 r2 r3 r4 r5 ce ((kx_wh tr ce D3 t).1) we wr nm n T cd ((kx_wh tr ce D3 t).2.2.2) ((kx_wh tr ce D3 t).2.1) ((kx_wh tr ce D3 t).2.2.1)) → va_S A s.heap H locs → lv_has ls 4 [(0, .ref g0), (1, .int tr), (2, .int (nI (mo_bits tr 32))), (3, .int (nI t))] → W p l e (headSpec wsX1_stores ({ frames := 1, cells := 0, slots := 0, locals := 22 })).room s m ([.ref g0, .int tr] : List Value).toArray below meth c H locs 0 0 (MQ below (va_Qi (fun (r' : Int32) (_ : Unit) => r' = (if (kx_kd tr ce (w, told, wia, off)).2.2.2 = 0 then nI 1 else nI 0)) (kB dC dI [(cA, .int)] (wX1 cA g0 r1 r2 r3 r4 r5 ce ((kx_kd tr ce (w, told, wia, off)).1) we wr nm (if (kx_kd tr ce (w, told, wia, off)).2.2.2 = 0 then n else 0) (if (kx_kd tr ce (w, told, wia, off)).2.2.2 = 0 then T else 0) cd ((kx_kd tr ce (w, told, wia, off)).2.2.2) ((kx_kd tr ce (w, told, wia, off)).2.1) ((kx_kd tr ce (w, told, wia, off)).2.2.1)) A) A) ([.ref g0, .int tr] : List Value).toArray s 0 0 A) (F0 m 105 ls []) := by
              intro k
              induction k with
              | zero =>
                intro t ht hg H locs ls hP hD hS hl
                refine lv_iload_n hx hb dX1_stores_105 rfl (lv_at hl 3 rfl) ?_
                refine lv_bipush (v := (nI 32)) hx hb dX1_stores_106 (by decide) ?_
                refine kv_ge (tgt := 142) hx hb (by omega) (by omega) dX1_stores_108 (by decide) (fun h108_3 => ?_) (fun h108_3 => absurd h108_3 (by omega))
                have htt : t = 32 := by omega
                rw [htt] at hP hD hl hg
                obtain ⟨D4, hD4⟩ : ∃ D4, D4 = kx_wh tr ce D3 32 := ⟨_, rfl⟩
                rw [← hD4] at hP hD hg hk3
                have hP : va_P (dC, dI) vwCl (wX1 cA g0 r1 r2 r3 r4 r5 ce ((D4).1) we wr nm n T cd ((D4).2.2.2) ((D4).2.1) ((D4).2.2.1)) H := by exact hP
                have hD : va_D A (wX1 cA g0 r1 r2 r3 r4 r5 ce ((D4).1) we wr nm n T cd ((D4).2.2.2) ((D4).2.1) ((D4).2.2.1)) := by exact hD
                refine lv_aload_n hx hb dX1_stores_142 rfl (lv_at hl 0 rfl) ?_
                refine lv_bipush (v := (nI 32)) hx hb dX1_stores_143 (by decide) ?_
                refine lv_iconst (v := (nI 0)) hx hb dX1_stores_145 (by decide) ?_
                by_cases hb146 : ((D4).2.1) = nI 1
                · skip
                  have e5 : kx_pw D4 32 (nI 0) = (D4.1, nI 0, D4.2.2.1, nI 1) := rx_pw_c (w := D4.1) hg hb146
                  refine kv_Vi (Xr := []) (n := 2) (c_X1_puts_c l dC dI cA g0 r1 r2 r3 r4 r5 ce ((D4).1) we wr nm n T cd ((D4).2.2.2) ((D4).2.1) ((D4).2.2.1) 32 (nI 0) (by omega) hb146) hx hb hml hown hts gX1_stores_X1_puts rfl ⟨rfl, rfl⟩ (by decide +kernel) rfl ⟨Nat.le_of_ble_eq_true rfl, Nat.le_of_ble_eq_true rfl⟩ hK hP hD hS hA [0] [0, 1, 2, 3, 4, 5] [] rfl rfl rfl (by decide) (by decide) (q0 := 0) rfl rfl rfl (by decide) hl.1 rfl (Nat.le_of_ble_eq_true rfl) dX1_stores_146 ⟨Nat.zero_le _, Nat.zero_le _⟩ (fun H locs hP hD hS => ?_)
                  have hP : va_P (dC, dI) vwCl (wX1 cA g0 r1 r2 r3 r4 r5 ce ((D4).1) we wr nm 0 0 cd (nI 1) (nI 0) ((D4).2.2.1)) H := hP
                  have hD : va_D A (wX1 cA g0 r1 r2 r3 r4 r5 ce ((D4).1) we wr nm 0 0 cd (nI 1) (nI 0) ((D4).2.2.1)) := hD
                  exact kMi_zret hx hb hr hlocks hP hK hD hS dX1_stores_149 (by decide) (by rw [hk3, e5]; rfl) (by rw [hk3, e5]; rfl)
                · skip
                  have e5 : kx_pw D4 32 (nI 0) = (upd D4.1 32 (nI 0), rx_td D4.2.1, D4.2.2.1 + nI 1, D4.2.2.2) := rx_pw_w (w := D4.1) hg hb146
                  refine kv_Vi (Xr := []) (n := 2) (c_X1_puts_w l dC dI cA g0 r1 r2 r3 r4 r5 ce ((D4).1) we wr nm n T cd ((D4).2.2.2) ((D4).2.1) ((D4).2.2.1) 32 (nI 0) (by omega) hb146) hx hb hml hown hts gX1_stores_X1_puts rfl ⟨rfl, rfl⟩ (by decide +kernel) rfl ⟨Nat.le_of_ble_eq_true rfl, Nat.le_of_ble_eq_true rfl⟩ hK hP hD hS hA [0] [0, 1, 2, 3, 4, 5] [] rfl rfl rfl (by decide) (by decide) (q0 := 0) rfl rfl rfl (by decide) hl.1 rfl (Nat.le_of_ble_eq_true rfl) dX1_stores_146 ⟨Nat.zero_le _, Nat.zero_le _⟩ (fun H locs hP hD hS => ?_)
                  have hP : va_P (dC, dI) vwCl (wX1 cA g0 r1 r2 r3 r4 r5 ce (upd ((D4).1) 32 (nI 0)) we wr nm n T cd ((D4).2.2.2) (rx_td ((D4).2.1)) (((D4).2.2.1) + nI 1)) H := hP
                  have hD : va_D A (wX1 cA g0 r1 r2 r3 r4 r5 ce (upd ((D4).1) 32 (nI 0)) we wr nm n T cd ((D4).2.2.2) (rx_td ((D4).2.1)) (((D4).2.2.1) + nI 1)) := hD
                  exact kMi_zret hx hb hr hlocks hP hK hD hS dX1_stores_149 (by decide) (by rw [hk3, e5]; exact (if_pos hg).symm) (by rw [hk3, e5, if_pos hg, if_pos hg])
              | succ k ih =>
                intro t ht hg H locs ls hP hD hS hl
                have hmb1 := mo_b_le tr t
                have hWs : kx_wh tr ce D3 (t + 1) = if kx_holds tr (nI t) = 0 then kx_wh tr ce D3 t else kx_pw (kx_wh tr ce D3 t) t (ce t) := rfl
                refine lv_iload_n hx hb dX1_stores_105 rfl (lv_at hl 3 rfl) ?_
                refine lv_bipush (v := (nI 32)) hx hb dX1_stores_106 (by decide) ?_
                refine kv_ge (tgt := 142) hx hb (by omega) (by omega) dX1_stores_108 (by decide) (fun h108_3 => absurd h108_3 (by omega)) (fun h108_3 => ?_)
                refine lv_iload_n hx hb dX1_stores_111 rfl (lv_at hl 1 rfl) ?_
                refine lv_iload_n hx hb dX1_stores_112 rfl (lv_at hl 3 rfl) ?_
                refine lv_ishr hx hb dX1_stores_113 ?_
                refine lv_iconst (v := (nI 1)) hx hb dX1_stores_114 (by decide) ?_
                refine lv_iand hx hb dX1_stores_115 ?_
                refine kv_top (w := .int (nI (mo_b tr t))) (by rw [mb_shr tr (by omega)]) ?_
                refine lv_iconst (v := (nI 1)) hx hb dX1_stores_116 (by decide) ?_
                refine kv_ne (tgt := 136) hx hb (by omega) (by omega) dX1_stores_117 (by decide) (fun h117_3 => ?_) (fun h117_3 => ?_)
                · skip
                  refine lv_iinc (v := (nI (t + 1))) (lv' := [(3, .int (nI (t + 1))), (0, .ref g0), (1, .int tr), (2, .int (nI (mo_bits tr 32)))]) hx hb dX1_stores_136 hl (k := 3) rfl (kv_inc _ 1 (by decide)) (by decide) rfl (fun ls hl => ?_)
                  refine lv_goto (tgt := 105) hx hb dX1_stores_139 (by decide) ?_
                  have e1 : kx_wh tr ce D3 (t + 1) = kx_wh tr ce D3 t := by rw [hWs, if_pos ((mb_holds0 tr (by omega)).mpr (by omega))]
                  have hg9 := hg
                  have hP : va_P (dC, dI) vwCl (wX1 cA g0 r1 r2 r3 r4 r5 ce ((kx_wh tr ce D3 (t + 1)).1) we wr nm n T cd ((kx_wh tr ce D3 (t + 1)).2.2.2) ((kx_wh tr ce D3 (t + 1)).2.1) ((kx_wh tr ce D3 (t + 1)).2.2.1)) H := by rw [e1]; exact hP
                  have hD : va_D A (wX1 cA g0 r1 r2 r3 r4 r5 ce ((kx_wh tr ce D3 (t + 1)).1) we wr nm n T cd ((kx_wh tr ce D3 (t + 1)).2.2.2) ((kx_wh tr ce D3 (t + 1)).2.1) ((kx_wh tr ce D3 (t + 1)).2.2.1)) := by rw [e1]; exact hD
                  exact ih (t + 1) (by omega) (by rw [e1]; exact hg) _ _ _ hP hD hS (lv_sub hl [1, 2, 3, 0] rfl)
                · skip
                  refine lv_aload_n hx hb dX1_stores_120 rfl (lv_at hl 0 rfl) ?_
                  refine lv_iload_n hx hb dX1_stores_121 rfl (lv_at hl 3 rfl) ?_
                  refine lv_aload_n hx hb dX1_stores_122 rfl (lv_at hl 0 rfl) ?_
                  refine va_get (D := (dC, dI)) (ci := 1) (v := .ref r1) (C := RX1) (T := TX1) (N := 11) hx hb hts hin hown hK hP 0 rfl rfl 1 (by decide) (hts (.fieldLink RX1 7 "NestCellsModel" "cells" "[I") (by decide +kernel)) (fun _ h9 => h9) rfl dX1_stores_123 ?_
                  refine lv_iload_n hx hb dX1_stores_126 rfl (lv_at hl 3 rfl) ?_
                  refine kv_iald hx hb hK hP 1 0 rfl rfl (by omega) (by omega) dX1_stores_127 ?_
                  by_cases hb128 : ((kx_wh tr ce D3 t).2.1) = nI 1
                  · skip
                    have e1 : kx_wh tr ce D3 (t + 1) = ((kx_wh tr ce D3 t).1, nI 0, (kx_wh tr ce D3 t).2.2.1, nI 1) := by rw [hWs, if_neg (fun q => absurd ((mb_holds0 tr (by omega)).mp q) (by omega))]; exact rx_pw_c hg hb128
                    have e2 := hk4 (t + 1) (by omega) (by rw [e1]; exact kv_n10)
                    rw [e1] at e2
                    refine kv_Vi (Xr := []) (n := 2) (c_X1_puts_c l dC dI cA g0 r1 r2 r3 r4 r5 ce ((kx_wh tr ce D3 t).1) we wr nm n T cd ((kx_wh tr ce D3 t).2.2.2) ((kx_wh tr ce D3 t).2.1) ((kx_wh tr ce D3 t).2.2.1) t (ce t) (by omega) hb128) hx hb hml hown hts gX1_stores_X1_puts rfl ⟨rfl, rfl⟩ (by decide +kernel) rfl ⟨Nat.le_of_ble_eq_true rfl, Nat.le_of_ble_eq_true rfl⟩ hK hP hD hS hA [0] [0, 1, 2, 3, 4, 5] [] rfl rfl rfl (by decide) (by decide) (q0 := 0) rfl rfl rfl (by decide) hl.1 rfl (Nat.le_of_ble_eq_true rfl) dX1_stores_128 ⟨Nat.zero_le _, Nat.zero_le _⟩ (fun H locs hP hD hS => ?_)
                    have hP : va_P (dC, dI) vwCl (wX1 cA g0 r1 r2 r3 r4 r5 ce ((kx_wh tr ce D3 t).1) we wr nm 0 0 cd (nI 1) (nI 0) ((kx_wh tr ce D3 t).2.2.1)) H := hP
                    have hD : va_D A (wX1 cA g0 r1 r2 r3 r4 r5 ce ((kx_wh tr ce D3 t).1) we wr nm 0 0 cd (nI 1) (nI 0) ((kx_wh tr ce D3 t).2.2.1)) := hD
                    refine kv_if_ne (tgt := 136) hx hb (by omega) dX1_stores_131 (by decide) (fun h9 => absurd h9 (by omega)) (fun _ => ?_)
                    refine lv_iconst (v := (nI 0)) hx hb dX1_stores_134 (by decide) ?_
                    exact kMi_zret hx hb hr hlocks hP hK hD hS dX1_stores_135 (by decide) (by rw [e2]; rfl) (by rw [e2]; rfl)
                  · skip
                    refine kv_Vi (Xr := []) (n := 2) (c_X1_puts_w l dC dI cA g0 r1 r2 r3 r4 r5 ce ((kx_wh tr ce D3 t).1) we wr nm n T cd ((kx_wh tr ce D3 t).2.2.2) ((kx_wh tr ce D3 t).2.1) ((kx_wh tr ce D3 t).2.2.1) t (ce t) (by omega) hb128) hx hb hml hown hts gX1_stores_X1_puts rfl ⟨rfl, rfl⟩ (by decide +kernel) rfl ⟨Nat.le_of_ble_eq_true rfl, Nat.le_of_ble_eq_true rfl⟩ hK hP hD hS hA [0] [0, 1, 2, 3, 4, 5] [] rfl rfl rfl (by decide) (by decide) (q0 := 0) rfl rfl rfl (by decide) hl.1 rfl (Nat.le_of_ble_eq_true rfl) dX1_stores_128 ⟨Nat.zero_le _, Nat.zero_le _⟩ (fun H locs hP hD hS => ?_)
                    have hP : va_P (dC, dI) vwCl (wX1 cA g0 r1 r2 r3 r4 r5 ce (upd ((kx_wh tr ce D3 t).1) t (ce t)) we wr nm n T cd ((kx_wh tr ce D3 t).2.2.2) (rx_td ((kx_wh tr ce D3 t).2.1)) (((kx_wh tr ce D3 t).2.2.1) + nI 1)) H := hP
                    have hD : va_D A (wX1 cA g0 r1 r2 r3 r4 r5 ce (upd ((kx_wh tr ce D3 t).1) t (ce t)) we wr nm n T cd ((kx_wh tr ce D3 t).2.2.2) (rx_td ((kx_wh tr ce D3 t).2.1)) (((kx_wh tr ce D3 t).2.2.1) + nI 1)) := hD
                    refine kv_if_ne (tgt := 136) hx hb (by omega) dX1_stores_131 (by decide) (fun _ => ?_) (fun h9 => absurd h9 (by omega))
                    refine lv_iinc (v := (nI (t + 1))) (lv' := [(3, .int (nI (t + 1))), (0, .ref g0), (1, .int tr), (2, .int (nI (mo_bits tr 32)))]) hx hb dX1_stores_136 hl (k := 3) rfl (kv_inc _ 1 (by decide)) (by decide) rfl (fun ls hl => ?_)
                    refine lv_goto (tgt := 105) hx hb dX1_stores_139 (by decide) ?_
                    have e1 : kx_wh tr ce D3 (t + 1) = (upd (kx_wh tr ce D3 t).1 t (ce t), rx_td (kx_wh tr ce D3 t).2.1, (kx_wh tr ce D3 t).2.2.1 + nI 1, (kx_wh tr ce D3 t).2.2.2) := by rw [hWs, if_neg (fun q => absurd ((mb_holds0 tr (by omega)).mp q) (by omega))]; exact rx_pw_w hg hb128
                    have hP : va_P (dC, dI) vwCl (wX1 cA g0 r1 r2 r3 r4 r5 ce ((kx_wh tr ce D3 (t + 1)).1) we wr nm n T cd ((kx_wh tr ce D3 (t + 1)).2.2.2) ((kx_wh tr ce D3 (t + 1)).2.1) ((kx_wh tr ce D3 (t + 1)).2.2.1)) H := by rw [e1]; exact hP
                    have hD : va_D A (wX1 cA g0 r1 r2 r3 r4 r5 ce ((kx_wh tr ce D3 (t + 1)).1) we wr nm n T cd ((kx_wh tr ce D3 (t + 1)).2.2.2) ((kx_wh tr ce D3 (t + 1)).2.1) ((kx_wh tr ce D3 (t + 1)).2.2.1)) := by rw [e1]; exact hD
                    exact ih (t + 1) (by omega) (by rw [e1]; exact hg) _ _ _ hP hD hS (lv_sub hl [1, 2, 3, 0] rfl)
            exact lp 32 0 (by omega) hf3 _ _ _ hP hD hS (lv_sub hl [1, 2, 3, 0] rfl)
        · skip
          refine lv_iconst (v := (nI 1)) hx hb dX1_stores_89 (by decide) ?_
          exact kMi_zret hx hb hr hlocks hP hK hD hS dX1_stores_90 (by decide) (by rw [rx_kd_0 (by omega), ← hD2, if_pos hf2]) (by rw [rx_kd_0 (by omega), ← hD2, if_pos hf2, if_pos hf2])
    | succ k ih =>
      intro t ht hf H locs ls hP hD hS hl
      have hmb1 := mo_b_le tr t
      have hmb2 := mo_bits_le tr t
      have hmb3 : mo_bits tr (t + 1) = mo_bits tr t + mo_b tr t := rfl
      have hn9 := rx_we_n tr ce (w, told, wia, off) t (by omega)
      have hEs : kx_we tr ce (w, told, wia, off) (t + 1) = if kx_holds tr (nI t) = 0 then kx_we tr ce (w, told, wia, off) t else (kx_pw (kx_pw (kx_we tr ce (w, told, wia, off) t).1 (kx_we tr ce (w, told, wia, off) t).2 (nI t)) ((kx_we tr ce (w, told, wia, off) t).2 + 1) (ce t), (kx_we tr ce (w, told, wia, off) t).2 + 2) := rfl
      refine lv_iload_n hx hb dX1_stores_4 rfl (lv_at hl 3 rfl) ?_
      refine lv_bipush (v := (nI 32)) hx hb dX1_stores_5 (by decide) ?_
      refine kv_ge (tgt := 65) hx hb (by omega) (by omega) dX1_stores_7 (by decide) (fun h7_0 => absurd h7_0 (by omega)) (fun h7_0 => ?_)
      refine lv_iload_n hx hb dX1_stores_10 rfl (lv_at hl 1 rfl) ?_
      refine lv_iload_n hx hb dX1_stores_11 rfl (lv_at hl 3 rfl) ?_
      refine lv_ishr hx hb dX1_stores_12 ?_
      refine lv_iconst (v := (nI 1)) hx hb dX1_stores_13 (by decide) ?_
      refine lv_iand hx hb dX1_stores_14 ?_
      refine kv_top (w := .int (nI (mo_b tr t))) (by rw [mb_shr tr (by omega)]) ?_
      refine lv_iconst (v := (nI 1)) hx hb dX1_stores_15 (by decide) ?_
      refine kv_ne (tgt := 59) hx hb (by omega) (by omega) dX1_stores_16 (by decide) (fun h16_0 => ?_) (fun h16_0 => ?_)
      · skip
        refine lv_iinc (v := (nI (t + 1))) (lv' := [(3, .int (nI (t + 1))), (0, .ref g0), (1, .int tr), (2, .int (nI (mo_bits tr t)))]) hx hb dX1_stores_59 hl (k := 3) rfl (kv_inc _ 1 (by decide)) (by decide) rfl (fun ls hl => ?_)
        refine lv_goto (tgt := 4) hx hb dX1_stores_62 (by decide) ?_
        have e1 : (kx_we tr ce (w, told, wia, off) (t + 1)).1 = (kx_we tr ce (w, told, wia, off) t).1 := by rw [hEs, if_pos ((mb_holds0 tr (by omega)).mpr (by omega))]
        have hl : lv_has ls 4 [(3, .int (nI (t + 1))), (0, .ref g0), (1, .int tr), (2, .int (nI (mo_bits tr (t + 1))))] := by rw [show mo_bits tr (t + 1) = mo_bits tr t by omega]; exact hl
        have hP : va_P (dC, dI) vwCl (wX1 cA g0 r1 r2 r3 r4 r5 ce (((kx_we tr ce (w, told, wia, off) (t + 1)).1).1) we wr nm n T cd (((kx_we tr ce (w, told, wia, off) (t + 1)).1).2.2.2) (((kx_we tr ce (w, told, wia, off) (t + 1)).1).2.1) (((kx_we tr ce (w, told, wia, off) (t + 1)).1).2.2.1)) H := by rw [e1]; exact hP
        have hD : va_D A (wX1 cA g0 r1 r2 r3 r4 r5 ce (((kx_we tr ce (w, told, wia, off) (t + 1)).1).1) we wr nm n T cd (((kx_we tr ce (w, told, wia, off) (t + 1)).1).2.2.2) (((kx_we tr ce (w, told, wia, off) (t + 1)).1).2.1) (((kx_we tr ce (w, told, wia, off) (t + 1)).1).2.2.1)) := by rw [e1]; exact hD
        exact ih (t + 1) (by omega) (by rw [e1]; exact hf) _ _ _ hP hD hS (lv_sub hl [1, 2, 3, 0] rfl)
      · skip
        refine lv_aload_n hx hb dX1_stores_19 rfl (lv_at hl 0 rfl) ?_
        refine lv_bipush (v := (nI 34)) hx hb dX1_stores_20 (by decide) ?_
        refine lv_iconst (v := (nI 2)) hx hb dX1_stores_22 (by decide) ?_
        refine lv_iload_n hx hb dX1_stores_23 rfl (lv_at hl 2 rfl) ?_
        refine kv_mul hx hb dX1_stores_24 ?_
        refine kv_addE (d := 34 + (2 * (mo_bits tr t))) hx hb (by omega) dX1_stores_25 ?_
        refine lv_iload_n hx hb dX1_stores_26 rfl (lv_at hl 3 rfl) ?_
        by_cases hb27 : (((kx_we tr ce (w, told, wia, off) t).1).2.1) = nI 1
        · skip
          have e0 : kx_pw (kx_we tr ce (w, told, wia, off) t).1 (34 + 2 * mo_bits tr t) (nI t) = ((kx_we tr ce (w, told, wia, off) t).1.1, nI 0, (kx_we tr ce (w, told, wia, off) t).1.2.2.1, nI 1) := rx_pw_c hf hb27
          have e1 : (kx_we tr ce (w, told, wia, off) (t + 1)).1 = ((kx_we tr ce (w, told, wia, off) t).1.1, nI 0, (kx_we tr ce (w, told, wia, off) t).1.2.2.1, nI 1) := by rw [hEs, if_neg (fun q => absurd ((mb_holds0 tr (by omega)).mp q) (by omega)), hn9, e0]; exact rx_pw_off (D := ((kx_we tr ce (w, told, wia, off) t).1.1, nI 0, (kx_we tr ce (w, told, wia, off) t).1.2.2.1, nI 1)) (i := 34 + 2 * mo_bits tr t + 1) (v := ce t) kv_n10
          have e2 := rx_kd_we (tr := tr) (ce := ce) (D := (w, told, wia, off)) (k := t + 1) (by omega) (by rw [e1]; exact kv_n10)
          rw [e1] at e2
          refine kv_Vi (Xr := []) (n := 2) (c_X1_puts_c l dC dI cA g0 r1 r2 r3 r4 r5 ce (((kx_we tr ce (w, told, wia, off) t).1).1) we wr nm n T cd (((kx_we tr ce (w, told, wia, off) t).1).2.2.2) (((kx_we tr ce (w, told, wia, off) t).1).2.1) (((kx_we tr ce (w, told, wia, off) t).1).2.2.1) (34 + (2 * (mo_bits tr t))) (nI t) (by omega) hb27) hx hb hml hown hts gX1_stores_X1_puts rfl ⟨rfl, rfl⟩ (by decide +kernel) rfl ⟨Nat.le_of_ble_eq_true rfl, Nat.le_of_ble_eq_true rfl⟩ hK hP hD hS hA [0] [0, 1, 2, 3, 4, 5] [] rfl rfl rfl (by decide) (by decide) (q0 := 0) rfl rfl rfl (by decide) hl.1 rfl (Nat.le_of_ble_eq_true rfl) dX1_stores_27 ⟨Nat.zero_le _, Nat.zero_le _⟩ (fun H locs hP hD hS => ?_)
          have hP : va_P (dC, dI) vwCl (wX1 cA g0 r1 r2 r3 r4 r5 ce (((kx_we tr ce (w, told, wia, off) t).1).1) we wr nm 0 0 cd (nI 1) (nI 0) (((kx_we tr ce (w, told, wia, off) t).1).2.2.1)) H := hP
          have hD : va_D A (wX1 cA g0 r1 r2 r3 r4 r5 ce (((kx_we tr ce (w, told, wia, off) t).1).1) we wr nm 0 0 cd (nI 1) (nI 0) (((kx_we tr ce (w, told, wia, off) t).1).2.2.1)) := hD
          refine kv_if_eq (tgt := 54) hx hb (by omega) dX1_stores_30 (by decide) (fun _ => ?_) (fun h9 => absurd h9 (by omega))
          refine lv_iconst (v := (nI 0)) hx hb dX1_stores_54 (by decide) ?_
          exact kMi_zret hx hb hr hlocks hP hK hD hS dX1_stores_55 (by decide) (by rw [e2]; rfl) (by rw [e2]; rfl)
        · skip
          have e0 : kx_pw (kx_we tr ce (w, told, wia, off) t).1 (34 + 2 * mo_bits tr t) (nI t) = (upd (kx_we tr ce (w, told, wia, off) t).1.1 (34 + 2 * mo_bits tr t) (nI t), rx_td (kx_we tr ce (w, told, wia, off) t).1.2.1, (kx_we tr ce (w, told, wia, off) t).1.2.2.1 + nI 1, (kx_we tr ce (w, told, wia, off) t).1.2.2.2) := rx_pw_w hf hb27
          refine kv_Vi (Xr := []) (n := 2) (c_X1_puts_w l dC dI cA g0 r1 r2 r3 r4 r5 ce (((kx_we tr ce (w, told, wia, off) t).1).1) we wr nm n T cd (((kx_we tr ce (w, told, wia, off) t).1).2.2.2) (((kx_we tr ce (w, told, wia, off) t).1).2.1) (((kx_we tr ce (w, told, wia, off) t).1).2.2.1) (34 + (2 * (mo_bits tr t))) (nI t) (by omega) hb27) hx hb hml hown hts gX1_stores_X1_puts rfl ⟨rfl, rfl⟩ (by decide +kernel) rfl ⟨Nat.le_of_ble_eq_true rfl, Nat.le_of_ble_eq_true rfl⟩ hK hP hD hS hA [0] [0, 1, 2, 3, 4, 5] [] rfl rfl rfl (by decide) (by decide) (q0 := 0) rfl rfl rfl (by decide) hl.1 rfl (Nat.le_of_ble_eq_true rfl) dX1_stores_27 ⟨Nat.zero_le _, Nat.zero_le _⟩ (fun H locs hP hD hS => ?_)
          have hP : va_P (dC, dI) vwCl (wX1 cA g0 r1 r2 r3 r4 r5 ce (upd (((kx_we tr ce (w, told, wia, off) t).1).1) (34 + (2 * (mo_bits tr t))) (nI t)) we wr nm n T cd (((kx_we tr ce (w, told, wia, off) t).1).2.2.2) (rx_td (((kx_we tr ce (w, told, wia, off) t).1).2.1)) ((((kx_we tr ce (w, told, wia, off) t).1).2.2.1) + nI 1)) H := hP
          have hD : va_D A (wX1 cA g0 r1 r2 r3 r4 r5 ce (upd (((kx_we tr ce (w, told, wia, off) t).1).1) (34 + (2 * (mo_bits tr t))) (nI t)) we wr nm n T cd (((kx_we tr ce (w, told, wia, off) t).1).2.2.2) (rx_td (((kx_we tr ce (w, told, wia, off) t).1).2.1)) ((((kx_we tr ce (w, told, wia, off) t).1).2.2.1) + nI 1)) := hD
          obtain ⟨D5, hD5⟩ : ∃ D5, D5 = kx_pw (kx_we tr ce (w, told, wia, off) t).1 (34 + 2 * mo_bits tr t) (nI t) := ⟨_, rfl⟩
          have hP : va_P (dC, dI) vwCl (wX1 cA g0 r1 r2 r3 r4 r5 ce ((D5).1) we wr nm n T cd ((D5).2.2.2) ((D5).2.1) ((D5).2.2.1)) H := by rw [hD5, e0]; exact hP
          have hD : va_D A (wX1 cA g0 r1 r2 r3 r4 r5 ce ((D5).1) we wr nm n T cd ((D5).2.2.2) ((D5).2.1) ((D5).2.2.1)) := by rw [hD5, e0]; exact hD
          have hf5 : D5.2.2.2 = 0 := by rw [hD5, e0]; exact hf
          have e5 : (kx_we tr ce (w, told, wia, off) (t + 1)).1 = kx_pw D5 (34 + 2 * mo_bits tr t + 1) (ce t) := by rw [hEs, if_neg (fun q => absurd ((mb_holds0 tr (by omega)).mp q) (by omega)), hn9, hD5]
          refine kv_if_eq (tgt := 54) hx hb (by omega) dX1_stores_30 (by decide) (fun h9 => absurd h9 (by omega)) (fun _ => ?_)
          refine lv_aload_n hx hb dX1_stores_33 rfl (lv_at hl 0 rfl) ?_
          refine lv_bipush (v := (nI 34)) hx hb dX1_stores_34 (by decide) ?_
          refine lv_iconst (v := (nI 2)) hx hb dX1_stores_36 (by decide) ?_
          refine lv_iload_n hx hb dX1_stores_37 rfl (lv_at hl 2 rfl) ?_
          refine kv_mul hx hb dX1_stores_38 ?_
          refine kv_addE (d := 34 + (2 * (mo_bits tr t))) hx hb (by omega) dX1_stores_39 ?_
          refine lv_iconst (v := (nI 1)) hx hb dX1_stores_40 (by decide) ?_
          refine kv_addE (d := (34 + (2 * (mo_bits tr t))) + 1) hx hb (by omega) dX1_stores_41 ?_
          refine lv_aload_n hx hb dX1_stores_42 rfl (lv_at hl 0 rfl) ?_
          refine va_get (D := (dC, dI)) (ci := 1) (v := .ref r1) (C := RX1) (T := TX1) (N := 11) hx hb hts hin hown hK hP 0 rfl rfl 1 (by decide) (hts (.fieldLink RX1 7 "NestCellsModel" "cells" "[I") (by decide +kernel)) (fun _ h9 => h9) rfl dX1_stores_43 ?_
          refine lv_iload_n hx hb dX1_stores_46 rfl (lv_at hl 3 rfl) ?_
          refine kv_iald hx hb hK hP 1 0 rfl rfl (by omega) (by omega) dX1_stores_47 ?_
          by_cases hb48 : ((D5).2.1) = nI 1
          · skip
            have e1 : (kx_we tr ce (w, told, wia, off) (t + 1)).1 = (D5.1, nI 0, D5.2.2.1, nI 1) := by rw [e5]; exact rx_pw_c hf5 hb48
            have e2 := rx_kd_we (tr := tr) (ce := ce) (D := (w, told, wia, off)) (k := t + 1) (by omega) (by rw [e1]; exact kv_n10)
            rw [e1] at e2
            refine kv_Vi (Xr := []) (n := 2) (c_X1_puts_c l dC dI cA g0 r1 r2 r3 r4 r5 ce ((D5).1) we wr nm n T cd ((D5).2.2.2) ((D5).2.1) ((D5).2.2.1) ((34 + (2 * (mo_bits tr t))) + 1) (ce t) (by omega) hb48) hx hb hml hown hts gX1_stores_X1_puts rfl ⟨rfl, rfl⟩ (by decide +kernel) rfl ⟨Nat.le_of_ble_eq_true rfl, Nat.le_of_ble_eq_true rfl⟩ hK hP hD hS hA [0] [0, 1, 2, 3, 4, 5] [] rfl rfl rfl (by decide) (by decide) (q0 := 0) rfl rfl rfl (by decide) hl.1 rfl (Nat.le_of_ble_eq_true rfl) dX1_stores_48 ⟨Nat.zero_le _, Nat.zero_le _⟩ (fun H locs hP hD hS => ?_)
            have hP : va_P (dC, dI) vwCl (wX1 cA g0 r1 r2 r3 r4 r5 ce ((D5).1) we wr nm 0 0 cd (nI 1) (nI 0) ((D5).2.2.1)) H := hP
            have hD : va_D A (wX1 cA g0 r1 r2 r3 r4 r5 ce ((D5).1) we wr nm 0 0 cd (nI 1) (nI 0) ((D5).2.2.1)) := hD
            refine kv_if_ne (tgt := 56) hx hb (by omega) dX1_stores_51 (by decide) (fun h9 => absurd h9 (by omega)) (fun _ => ?_)
            refine lv_iconst (v := (nI 0)) hx hb dX1_stores_54 (by decide) ?_
            exact kMi_zret hx hb hr hlocks hP hK hD hS dX1_stores_55 (by decide) (by rw [e2]; rfl) (by rw [e2]; rfl)
          · skip
            refine kv_Vi (Xr := []) (n := 2) (c_X1_puts_w l dC dI cA g0 r1 r2 r3 r4 r5 ce ((D5).1) we wr nm n T cd ((D5).2.2.2) ((D5).2.1) ((D5).2.2.1) ((34 + (2 * (mo_bits tr t))) + 1) (ce t) (by omega) hb48) hx hb hml hown hts gX1_stores_X1_puts rfl ⟨rfl, rfl⟩ (by decide +kernel) rfl ⟨Nat.le_of_ble_eq_true rfl, Nat.le_of_ble_eq_true rfl⟩ hK hP hD hS hA [0] [0, 1, 2, 3, 4, 5] [] rfl rfl rfl (by decide) (by decide) (q0 := 0) rfl rfl rfl (by decide) hl.1 rfl (Nat.le_of_ble_eq_true rfl) dX1_stores_48 ⟨Nat.zero_le _, Nat.zero_le _⟩ (fun H locs hP hD hS => ?_)
            have hP : va_P (dC, dI) vwCl (wX1 cA g0 r1 r2 r3 r4 r5 ce (upd ((D5).1) ((34 + (2 * (mo_bits tr t))) + 1) (ce t)) we wr nm n T cd ((D5).2.2.2) (rx_td ((D5).2.1)) (((D5).2.2.1) + nI 1)) H := hP
            have hD : va_D A (wX1 cA g0 r1 r2 r3 r4 r5 ce (upd ((D5).1) ((34 + (2 * (mo_bits tr t))) + 1) (ce t)) we wr nm n T cd ((D5).2.2.2) (rx_td ((D5).2.1)) (((D5).2.2.1) + nI 1)) := hD
            refine kv_if_ne (tgt := 56) hx hb (by omega) dX1_stores_51 (by decide) (fun _ => ?_) (fun h9 => absurd h9 (by omega))
            refine lv_iinc (v := (nI ((mo_bits tr t) + 1))) (lv' := [(2, .int (nI ((mo_bits tr t) + 1))), (0, .ref g0), (1, .int tr), (3, .int (nI t))]) hx hb dX1_stores_56 hl (k := 2) rfl (kv_inc _ 1 (by decide)) (by decide) rfl (fun ls hl => ?_)
            refine lv_iinc (v := (nI (t + 1))) (lv' := [(3, .int (nI (t + 1))), (2, .int (nI ((mo_bits tr t) + 1))), (0, .ref g0), (1, .int tr)]) hx hb dX1_stores_59 hl (k := 3) rfl (kv_inc _ 1 (by decide)) (by decide) rfl (fun ls hl => ?_)
            refine lv_goto (tgt := 4) hx hb dX1_stores_62 (by decide) ?_
            have e1 : (kx_we tr ce (w, told, wia, off) (t + 1)).1 = (upd D5.1 (34 + 2 * mo_bits tr t + 1) (ce t), rx_td D5.2.1, D5.2.2.1 + nI 1, D5.2.2.2) := by rw [e5]; exact rx_pw_w hf5 hb48
            have hl : lv_has ls 4 [(3, .int (nI (t + 1))), (2, .int (nI (mo_bits tr (t + 1)))), (0, .ref g0), (1, .int tr)] := by rw [show mo_bits tr (t + 1) = mo_bits tr t + 1 by omega]; exact hl
            have hP : va_P (dC, dI) vwCl (wX1 cA g0 r1 r2 r3 r4 r5 ce (((kx_we tr ce (w, told, wia, off) (t + 1)).1).1) we wr nm n T cd (((kx_we tr ce (w, told, wia, off) (t + 1)).1).2.2.2) (((kx_we tr ce (w, told, wia, off) (t + 1)).1).2.1) (((kx_we tr ce (w, told, wia, off) (t + 1)).1).2.2.1)) H := by rw [e1]; exact hP
            have hD : va_D A (wX1 cA g0 r1 r2 r3 r4 r5 ce (((kx_we tr ce (w, told, wia, off) (t + 1)).1).1) we wr nm n T cd (((kx_we tr ce (w, told, wia, off) (t + 1)).1).2.2.2) (((kx_we tr ce (w, told, wia, off) (t + 1)).1).2.1) (((kx_we tr ce (w, told, wia, off) (t + 1)).1).2.2.1)) := by rw [e1]; exact hD
            exact ih (t + 1) (by omega) (by rw [e1]; exact hf5) _ _ _ hP hD hS (lv_sub hl [2, 3, 1, 0] rfl)
  exact lp 32 0 (by omega) ho _ _ _ hP hD hS (lv_sub hl [2, 3, 1, 0] rfl)
