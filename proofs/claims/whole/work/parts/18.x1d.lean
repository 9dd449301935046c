set_option maxHeartbeats 4000000 in
set_option maxRecDepth 100000 in
/-- NestCellsModel.commit_x  -/
theorem c_X1_commit_x (l : Launch) (dC : Nat → ClassId) (dI : Nat → Nat → Nat) (cA : ClassId) (g0 r1 r2 r3 r4 r5 : Nat) (ce w we wr nm : Nat → Int32) (n T : Nat) (cd off told wia : Int32)  (hx9 : ¬ off = 0 ∨ T = 0) (hT8 : T ≤ 8) : kMi l yX1_commit wsX1_commit ({ frames := 2, cells := 0, slots := 0, locals := 45 }) dC dI [(cA, .int)] (wX1 cA g0 r1 r2 r3 r4 r5 ce w we wr nm n T cd off told wia) [.ref g0] (nI 0) (wX1 cA g0 r1 r2 r3 r4 r5 ce w we wr nm n T (nI 1) off told wia) := by
  refine kMi_of (cc := cX1_commit) (maxL := 2) (ret := (some .int)) (by decide) rfl (Nat.le_of_ble_eq_true rfl) ?_
  intro p e s m below meth c A ls hx hb hml hr hts hown hlocks hA hP hK hD hS hl
  have hin : ∀ w ∈ u_ws RX1 TX1 11, w ∈ wsX1_commit := by decide +kernel
  have hl : lv_has ls 2 [(0, .ref g0)] := hl
  refine lv_aload_n hx hb dX1_commit_0 rfl (lv_at hl 0 rfl) ?_
  refine lv_aload_n hx hb dX1_commit_1 rfl (lv_at hl 0 rfl) ?_
  refine va_get (D := (dC, dI)) (ci := 1) (v := .int off) (C := RX1) (T := TX1) (N := 11) hx hb hts hin hown hK hP 0 rfl rfl 8 (by decide) (hts (.fieldLink RX1 39 "NestCellsModel" "off" "Z") (by decide +kernel)) (fun _ h9 => h9) rfl dX1_commit_2 ?_
  refine lv_if_ne (tgt := 15) hx hb dX1_commit_5 (by decide) (fun h5_0 => ?_) (fun h5_0 => ?_)
  · skip
    refine lv_iconst (v := (nI 1)) hx hb dX1_commit_15 (by decide) ?_
    refine lv_goto (tgt := 20) hx hb dX1_commit_16 (by decide) ?_
    refine kv_Vi (Xr := []) (n := 1) (c_X1_refuses_1 l dC dI cA g0 r1 r2 r3 r4 r5 ce w we wr nm n T cd off told wia  ) hx hb hml hown hts gX1_commit_X1_refuses rfl ⟨rfl, rfl⟩ (by decide +kernel) rfl ⟨Nat.le_of_ble_eq_true rfl, Nat.le_of_ble_eq_true rfl⟩ hK hP hD hS hA [0] [0, 1, 2, 3, 4, 5] [] rfl rfl rfl (by decide) (by decide) (q0 := 0) rfl rfl rfl (by decide) hl.1 rfl (Nat.le_of_ble_eq_true rfl) dX1_commit_20 ⟨Nat.zero_le _, Nat.zero_le _⟩ (fun H locs hP hD hS => ?_)
    have hP : va_P (dC, dI) vwCl (wX1 cA g0 r1 r2 r3 r4 r5 ce w we wr nm n T (nI 1) off told wia) H := hP
    have hD : va_D A (wX1 cA g0 r1 r2 r3 r4 r5 ce w we wr nm n T (nI 1) off told wia) := hD
    refine kv_if_eq (tgt := 28) hx hb (by omega) dX1_commit_23 (by decide) (fun h9 => absurd h9 (by omega)) (fun _ => ?_)
    refine lv_iconst (v := (nI 0)) hx hb dX1_commit_26 (by decide) ?_
    exact kMi_ret hx hb hr hlocks hP hK hD hS dX1_commit_27 rfl rfl
  · skip
    refine lv_aload_n hx hb dX1_commit_8 rfl (lv_at hl 0 rfl) ?_
    refine va_get (D := (dC, dI)) (ci := 1) (v := .int (nI T)) (C := RX1) (T := TX1) (N := 11) hx hb hts hin hown hK hP 0 rfl rfl 7 (by decide) (hts (.fieldLink RX1 36 "NestCellsModel" "transactions" "I") (by decide +kernel)) (fun _ h9 => h9) rfl dX1_commit_9 ?_
    refine kv_if_ne (tgt := 19) hx hb (by omega) dX1_commit_12 (by decide) (fun h12_1 => absurd h12_1 (by have r9 := hx9.resolve_left (fun r => r h5_0); omega)) (fun h12_1 => ?_)
    refine lv_iconst (v := (nI 1)) hx hb dX1_commit_15 (by decide) ?_
    refine lv_goto (tgt := 20) hx hb dX1_commit_16 (by decide) ?_
    refine kv_Vi (Xr := []) (n := 1) (c_X1_refuses_1 l dC dI cA g0 r1 r2 r3 r4 r5 ce w we wr nm n T cd off told wia  ) hx hb hml hown hts gX1_commit_X1_refuses rfl ⟨rfl, rfl⟩ (by decide +kernel) rfl ⟨Nat.le_of_ble_eq_true rfl, Nat.le_of_ble_eq_true rfl⟩ hK hP hD hS hA [0] [0, 1, 2, 3, 4, 5] [] rfl rfl rfl (by decide) (by decide) (q0 := 0) rfl rfl rfl (by decide) hl.1 rfl (Nat.le_of_ble_eq_true rfl) dX1_commit_20 ⟨Nat.zero_le _, Nat.zero_le _⟩ (fun H locs hP hD hS => ?_)
    have hP : va_P (dC, dI) vwCl (wX1 cA g0 r1 r2 r3 r4 r5 ce w we wr nm n T (nI 1) off told wia) H := hP
    have hD : va_D A (wX1 cA g0 r1 r2 r3 r4 r5 ce w we wr nm n T (nI 1) off told wia) := hD
    refine kv_if_eq (tgt := 28) hx hb (by omega) dX1_commit_23 (by decide) (fun h9 => absurd h9 (by omega)) (fun _ => ?_)
    refine lv_iconst (v := (nI 0)) hx hb dX1_commit_26 (by decide) ?_
    exact kMi_ret hx hb hr hlocks hP hK hD hS dX1_commit_27 rfl rfl
theorem cw_1 (f : Nat → Int32) {i : Nat} (h : 1 ≤ i) : kx_sh f (i - 1) i = f := by
  have q := kx_sh_0 f (i - 1)
  rw [show i - 1 + 1 = i by omega] at q
  exact q
set_option maxHeartbeats 4000000 in
set_option maxRecDepth 100000 in
/-- NestCellsModel.commit_i  -/
theorem c_X1_commit_i (l : Launch) (dC : Nat → ClassId) (dI : Nat → Nat → Nat) (cA : ClassId) (g0 r1 r2 r3 r4 r5 : Nat) (ce w we wr nm : Nat → Int32) (n T : Nat) (cd off told wia : Int32)  (ho : off = 0) (hT8 : T ≤ 8) (hn : n ≤ 88) (hj : 1 ≤ kx_inn nm n) (hT : 2 ≤ T) (hj2 : 2 ≤ kx_inn nm n) : kMi l yX1_commit wsX1_commit ({ frames := 2, cells := 0, slots := 0, locals := 45 }) dC dI [(cA, .int)] (wX1 cA g0 r1 r2 r3 r4 r5 ce w we wr nm n T cd off told wia) [.ref g0] (nI (T - 1)) (wX1 cA g0 r1 r2 r3 r4 r5 ce w (rx_sw we (kx_inn nm n - 1) (32 * (kx_inn nm n - 1))) (kx_sh (upd (rx_cw (kx_inn nm n) n wr) ((kx_inn nm n - 1) - 1) ((rx_cw (kx_inn nm n) n wr) ((kx_inn nm n - 1) - 1) ||| (rx_cw (kx_inn nm n) n wr) (kx_inn nm n - 1))) (kx_inn nm n - 1) (kx_inn nm n)) (kx_sh nm (kx_inn nm n - 1) (kx_inn nm n)) (kx_inn nm n - 1) (T - 1) (nI 0) off told wia) := by
  refine kMi_of (cc := cX1_commit) (maxL := 2) (ret := (some .int)) (by decide) rfl (Nat.le_of_ble_eq_true rfl) ?_
  intro p e s m below meth c A ls hx hb hml hr hts hown hlocks hA hP hK hD hS hl
  have hin : ∀ w ∈ u_ws RX1 TX1 11, w ∈ wsX1_commit := by decide +kernel
  have hl : lv_has ls 2 [(0, .ref g0)] := hl
  have hjn := kx_inn_le nm n
  refine lv_aload_n hx hb dX1_commit_0 rfl (lv_at hl 0 rfl) ?_
  refine lv_aload_n hx hb dX1_commit_1 rfl (lv_at hl 0 rfl) ?_
  refine va_get (D := (dC, dI)) (ci := 1) (v := .int off) (C := RX1) (T := TX1) (N := 11) hx hb hts hin hown hK hP 0 rfl rfl 8 (by decide) (hts (.fieldLink RX1 39 "NestCellsModel" "off" "Z") (by decide +kernel)) (fun _ h9 => h9) rfl dX1_commit_2 ?_
  refine lv_if_ne (tgt := 15) hx hb dX1_commit_5 (by decide) (fun h5_0 => absurd h5_0 (fun q => q ho)) (fun h5_0 => ?_)
  refine lv_aload_n hx hb dX1_commit_8 rfl (lv_at hl 0 rfl) ?_
  refine va_get (D := (dC, dI)) (ci := 1) (v := .int (nI T)) (C := RX1) (T := TX1) (N := 11) hx hb hts hin hown hK hP 0 rfl rfl 7 (by decide) (hts (.fieldLink RX1 36 "NestCellsModel" "transactions" "I") (by decide +kernel)) (fun _ h9 => h9) rfl dX1_commit_9 ?_
  refine kv_if_ne (tgt := 19) hx hb (by omega) dX1_commit_12 (by decide) (fun h12_0 => ?_) (fun h12_0 => absurd h12_0 (by omega))
  refine lv_iconst (v := (nI 0)) hx hb dX1_commit_19 (by decide) ?_
  refine kv_Vi (Xr := []) (n := 1) (c_X1_refuses_0 l dC dI cA g0 r1 r2 r3 r4 r5 ce w we wr nm n T cd off told wia  ) hx hb hml hown hts gX1_commit_X1_refuses rfl ⟨rfl, rfl⟩ (by decide +kernel) rfl ⟨Nat.le_of_ble_eq_true rfl, Nat.le_of_ble_eq_true rfl⟩ hK hP hD hS hA [0] [0, 1, 2, 3, 4, 5] [] rfl rfl rfl (by decide) (by decide) (q0 := 0) rfl rfl rfl (by decide) hl.1 rfl (Nat.le_of_ble_eq_true rfl) dX1_commit_20 ⟨Nat.zero_le _, Nat.zero_le _⟩ (fun H locs hP hD hS => ?_)
  have hP : va_P (dC, dI) vwCl (wX1 cA g0 r1 r2 r3 r4 r5 ce w we wr nm n T (nI 0) off told wia) H := hP
  have hD : va_D A (wX1 cA g0 r1 r2 r3 r4 r5 ce w we wr nm n T (nI 0) off told wia) := hD
  refine kv_if_eq (tgt := 28) hx hb (by omega) dX1_commit_23 (by decide) (fun _ => ?_) (fun h9 => absurd h9 (by omega))
  refine lv_aload_n hx hb dX1_commit_28 rfl (lv_at hl 0 rfl) ?_
  refine kv_Vi (Xr := []) (n := 0) (c_X1_first l dC dI cA g0 r1 r2 r3 r4 r5 ce w we wr nm n T (nI 0) off told wia  (by omega) (by omega)) hx hb hml hown hts gX1_commit_X1_first rfl ⟨rfl, rfl⟩ (by decide +kernel) rfl ⟨Nat.le_of_ble_eq_true rfl, Nat.le_of_ble_eq_true rfl⟩ hK hP hD hS hA [0] [0, 1, 2, 3, 4, 5] [] rfl rfl rfl (by decide) (by decide) (q0 := 0) rfl rfl rfl (by decide) hl.1 rfl (Nat.le_of_ble_eq_true rfl) dX1_commit_29 ⟨Nat.zero_le _, Nat.zero_le _⟩ (fun H locs hP hD hS => ?_)
  have hP : va_P (dC, dI) vwCl (wX1 cA g0 r1 r2 r3 r4 r5 ce w we wr nm n T (nI 0) off told wia) H := hP
  have hD : va_D A (wX1 cA g0 r1 r2 r3 r4 r5 ce w we wr nm n T (nI 0) off told wia) := hD
  refine lv_istore_n (lv' := [(1, .int (nI (kx_inn nm n - 1))), (0, .ref g0)]) hx hb dX1_commit_32 rfl hl (by decide) rfl (fun ls hl => ?_)
  have lp : ∀ (k : Nat) (i : Nat) (wr' : Nat → Int32), ∀ (_ : i = kx_inn nm n + k), ∀ (_ : i ≤ n), ∀ (_ : rx_cw (kx_inn nm n) i wr' = rx_cw (kx_inn nm n) n wr), ∀ (H : Heap) (locs : List Loc) (ls : Array Slot), va_P (dC, dI) vwCl (wX1 cA g0 r1 r2 r3 r4 r5 ce w we wr' nm i T (nI 0) off told wia) H → va_D A (wX1 cA g0 r1 r2 r3 r4 r5 ce w we wr' nm i T (nI 0) off told wia) → va_S A s.heap H locs → lv_has ls 2 [(0, .ref g0), (1, .int (nI (kx_inn nm n - 1)))] → W p l e (headSpec wsX1_commit ({ frames := 2, cells := 0, slots := 0, locals := 45 })).room s m ([.ref g0] : List Value).toArray below meth c H locs 0 0 (MQ below (va_Qi (fun (r' : Int32) (_ : Unit) => r' = (nI (T - 1))) (kB dC dI [(cA, .int)] (wX1 cA g0 r1 r2 r3 r4 r5 ce w (rx_sw we (kx_inn nm n - 1) (32 * (kx_inn nm n - 1))) (kx_sh (upd (rx_cw (kx_inn nm n) n wr) ((kx_inn nm n - 1) - 1) ((rx_cw (kx_inn nm n) n wr) ((kx_inn nm n - 1) - 1) ||| (rx_cw (kx_inn nm n) n wr) (kx_inn nm n - 1))) (kx_inn nm n - 1) (kx_inn nm n)) (kx_sh nm (kx_inn nm n - 1) (kx_inn nm n)) (kx_inn nm n - 1) (T - 1) (nI 0) off told wia) A) A) ([.ref g0] : List Value).toArray s 0 0 A) (F0 m 33 ls []) := by
    intro k
    induction k with
    | zero =>
      intro i wr' hi hin8 he H locs ls hP hD hS hl
      have hi0 : i = kx_inn nm n := by omega
      have hW0 : wr' = rx_cw (kx_inn nm n) n wr := by rw [← he, hi0]; cases hjc : kx_inn nm n with | zero => omega | succ q => rw [rx_cw, if_pos (Nat.le_refl _)]
      rw [hi0] at hP hD
      have hP : va_P (dC, dI) vwCl (wX1 cA g0 r1 r2 r3 r4 r5 ce w we (rx_cw (kx_inn nm n) n wr) nm (kx_inn nm n) T (nI 0) off told wia) H := by rw [← hW0]; exact hP
      have hD : va_D A (wX1 cA g0 r1 r2 r3 r4 r5 ce w we (rx_cw (kx_inn nm n) n wr) nm (kx_inn nm n) T (nI 0) off told wia) := by rw [← hW0]; exact hD
      refine lv_aload_n hx hb dX1_commit_33 rfl (lv_at hl 0 rfl) ?_
      refine va_get (D := (dC, dI)) (ci := 1) (v := .int (nI (kx_inn nm n))) (C := RX1) (T := TX1) (N := 11) hx hb hts hin hown hK hP 0 rfl rfl 6 (by decide) (hts (.fieldLink RX1 29 "NestCellsModel" "levels" "I") (by decide +kernel)) (fun _ h9 => h9) rfl dX1_commit_34 ?_
      refine lv_iconst (v := (nI 1)) hx hb dX1_commit_37 (by decide) ?_
      refine kv_subE (d := (kx_inn nm n) - 1) hx hb (by omega) dX1_commit_38 ?_
      refine lv_iload_n hx hb dX1_commit_39 rfl (lv_at hl 1 rfl) ?_
      refine kv_le (tgt := 56) hx hb (by omega) (by omega) dX1_commit_40 (by decide) (fun h40_0 => ?_) (fun h40_0 => absurd h40_0 (by omega))
      refine lv_aload_n hx hb dX1_commit_56 rfl (lv_at hl 0 rfl) ?_
      refine va_get (D := (dC, dI)) (ci := 1) (v := .int (nI T)) (C := RX1) (T := TX1) (N := 11) hx hb hts hin hown hK hP 0 rfl rfl 7 (by decide) (hts (.fieldLink RX1 36 "NestCellsModel" "transactions" "I") (by decide +kernel)) (fun _ h9 => h9) rfl dX1_commit_57 ?_
      refine lv_iconst (v := (nI 1)) hx hb dX1_commit_60 (by decide) ?_
      refine kv_le (tgt := 72) hx hb (by omega) (by omega) dX1_commit_61 (by decide) (fun h61_0 => absurd h61_0 (by omega)) (fun h61_0 => ?_)
      refine lv_aload_n hx hb dX1_commit_64 rfl (lv_at hl 0 rfl) ?_
      refine lv_iload_n hx hb dX1_commit_65 rfl (lv_at hl 1 rfl) ?_
      refine kv_Vv (Xr := []) (n := 1) (c_X1_melts l dC dI cA g0 r1 r2 r3 r4 r5 ce w we (rx_cw (kx_inn nm n) n wr) nm (kx_inn nm n) T (nI 0) off told wia (kx_inn nm n - 1) (by omega) (by omega) (by omega)) hx hb hml hown hts gX1_commit_X1_melts rfl ⟨rfl, rfl⟩ (by decide +kernel) rfl ⟨Nat.le_of_ble_eq_true rfl, Nat.le_of_ble_eq_true rfl⟩ hK hP hD hS hA [0] [0, 1, 2, 3, 4, 5] [] rfl rfl rfl (by decide) (by decide) (q0 := 0) rfl rfl rfl (by decide) hl.1 rfl (Nat.le_of_ble_eq_true rfl) dX1_commit_66 ⟨Nat.zero_le _, Nat.zero_le _⟩ (fun H locs hP hD hS => ?_)
      have hP : va_P (dC, dI) vwCl (wX1 cA g0 r1 r2 r3 r4 r5 ce w (rx_sw we (kx_inn nm n - 1) (32 * ((kx_inn nm n) - 1))) (kx_sh (upd (rx_cw (kx_inn nm n) n wr) ((kx_inn nm n - 1) - 1) ((rx_cw (kx_inn nm n) n wr) ((kx_inn nm n - 1) - 1) ||| (rx_cw (kx_inn nm n) n wr) (kx_inn nm n - 1))) (kx_inn nm n - 1) (kx_inn nm n)) (kx_sh nm (kx_inn nm n - 1) (kx_inn nm n)) ((kx_inn nm n) - 1) T (nI 0) off told wia) H := hP
      have hD : va_D A (wX1 cA g0 r1 r2 r3 r4 r5 ce w (rx_sw we (kx_inn nm n - 1) (32 * ((kx_inn nm n) - 1))) (kx_sh (upd (rx_cw (kx_inn nm n) n wr) ((kx_inn nm n - 1) - 1) ((rx_cw (kx_inn nm n) n wr) ((kx_inn nm n - 1) - 1) ||| (rx_cw (kx_inn nm n) n wr) (kx_inn nm n - 1))) (kx_inn nm n - 1) (kx_inn nm n)) (kx_sh nm (kx_inn nm n - 1) (kx_inn nm n)) ((kx_inn nm n) - 1) T (nI 0) off told wia) := hD
      refine lv_goto (tgt := 92) hx hb dX1_commit_69 (by decide) ?_
      refine lv_aload_n hx hb dX1_commit_92 rfl (lv_at hl 0 rfl) ?_
      refine lv_dup hx hb dX1_commit_93 rfl ?_
      refine va_get (D := (dC, dI)) (ci := 1) (v := .int (nI T)) (C := RX1) (T := TX1) (N := 11) hx hb hts hin hown hK hP 0 rfl rfl 7 (by decide) (hts (.fieldLink RX1 36 "NestCellsModel" "transactions" "I") (by decide +kernel)) (fun _ h9 => h9) rfl dX1_commit_94 ?_
      refine lv_iconst (v := (nI 1)) hx hb dX1_commit_97 (by decide) ?_
      refine kv_subE (d := T - 1) hx hb (by omega) dX1_commit_98 ?_
      refine va_put (D := (dC, dI)) (ci := 1) (v := .int (nI (T - 1))) (ty := .int) (C := RX1) (T := TX1) (N := 11) hx hb hts hin tyX1 tyX1_ok nmX1 hown hK hP hD hS 0 rfl rfl 7 (by decide) (hts (.fieldLink RX1 36 "NestCellsModel" "transactions" "I") (by decide +kernel)) (fun _ h9 => h9) rfl (by decide +kernel) rfl rfl (Nat.le_of_ble_eq_true rfl) dX1_commit_99 (fun H locs hP hD hS => ?_)
      have hP : va_P (dC, dI) vwCl (wX1 cA g0 r1 r2 r3 r4 r5 ce w (rx_sw we (kx_inn nm n - 1) (32 * ((kx_inn nm n) - 1))) (kx_sh (upd (rx_cw (kx_inn nm n) n wr) ((kx_inn nm n - 1) - 1) ((rx_cw (kx_inn nm n) n wr) ((kx_inn nm n - 1) - 1) ||| (rx_cw (kx_inn nm n) n wr) (kx_inn nm n - 1))) (kx_inn nm n - 1) (kx_inn nm n)) (kx_sh nm (kx_inn nm n - 1) (kx_inn nm n)) ((kx_inn nm n) - 1) (T - 1) (nI 0) off told wia) H := hP
      have hD : va_D A (wX1 cA g0 r1 r2 r3 r4 r5 ce w (rx_sw we (kx_inn nm n - 1) (32 * ((kx_inn nm n) - 1))) (kx_sh (upd (rx_cw (kx_inn nm n) n wr) ((kx_inn nm n - 1) - 1) ((rx_cw (kx_inn nm n) n wr) ((kx_inn nm n - 1) - 1) ||| (rx_cw (kx_inn nm n) n wr) (kx_inn nm n - 1))) (kx_inn nm n - 1) (kx_inn nm n)) (kx_sh nm (kx_inn nm n - 1) (kx_inn nm n)) ((kx_inn nm n) - 1) (T - 1) (nI 0) off told wia) := hD
      refine lv_aload_n hx hb dX1_commit_102 rfl (lv_at hl 0 rfl) ?_
      refine va_get (D := (dC, dI)) (ci := 1) (v := .int (nI (T - 1))) (C := RX1) (T := TX1) (N := 11) hx hb hts hin hown hK hP 0 rfl rfl 7 (by decide) (hts (.fieldLink RX1 36 "NestCellsModel" "transactions" "I") (by decide +kernel)) (fun _ h9 => h9) rfl dX1_commit_103 ?_
      exact kMi_ret hx hb hr hlocks hP hK hD hS dX1_commit_106 rfl rfl
    | succ k ih =>
      intro i wr' hi hin8 he H locs ls hP hD hS hl
      refine lv_aload_n hx hb dX1_commit_33 rfl (lv_at hl 0 rfl) ?_
      refine va_get (D := (dC, dI)) (ci := 1) (v := .int (nI i)) (C := RX1) (T := TX1) (N := 11) hx hb hts hin hown hK hP 0 rfl rfl 6 (by decide) (hts (.fieldLink RX1 29 "NestCellsModel" "levels" "I") (by decide +kernel)) (fun _ h9 => h9) rfl dX1_commit_34 ?_
      refine lv_iconst (v := (nI 1)) hx hb dX1_commit_37 (by decide) ?_
      refine kv_subE (d := i - 1) hx hb (by omega) dX1_commit_38 ?_
      refine lv_iload_n hx hb dX1_commit_39 rfl (lv_at hl 1 rfl) ?_
      refine kv_le (tgt := 56) hx hb (by omega) (by omega) dX1_commit_40 (by decide) (fun h40_0 => absurd h40_0 (by omega)) (fun h40_0 => ?_)
      refine lv_aload_n hx hb dX1_commit_43 rfl (lv_at hl 0 rfl) ?_
      refine lv_aload_n hx hb dX1_commit_44 rfl (lv_at hl 0 rfl) ?_
      refine va_get (D := (dC, dI)) (ci := 1) (v := .int (nI i)) (C := RX1) (T := TX1) (N := 11) hx hb hts hin hown hK hP 0 rfl rfl 6 (by decide) (hts (.fieldLink RX1 29 "NestCellsModel" "levels" "I") (by decide +kernel)) (fun _ h9 => h9) rfl dX1_commit_45 ?_
      refine lv_iconst (v := (nI 1)) hx hb dX1_commit_48 (by decide) ?_
      refine kv_subE (d := i - 1) hx hb (by omega) dX1_commit_49 ?_
      refine kv_Vv (Xr := []) (n := 1) (c_X1_melts l dC dI cA g0 r1 r2 r3 r4 r5 ce w we wr' nm i T (nI 0) off told wia (i - 1) (by omega) (by omega) (by omega)) hx hb hml hown hts gX1_commit_X1_melts rfl ⟨rfl, rfl⟩ (by decide +kernel) rfl ⟨Nat.le_of_ble_eq_true rfl, Nat.le_of_ble_eq_true rfl⟩ hK hP hD hS hA [0] [0, 1, 2, 3, 4, 5] [] rfl rfl rfl (by decide) (by decide) (q0 := 0) rfl rfl rfl (by decide) hl.1 rfl (Nat.le_of_ble_eq_true rfl) dX1_commit_50 ⟨Nat.zero_le _, Nat.zero_le _⟩ (fun H locs hP hD hS => ?_)
      have hP : va_P (dC, dI) vwCl (wX1 cA g0 r1 r2 r3 r4 r5 ce w (rx_sw we (i - 1) (32 * (i - 1))) (kx_sh (upd wr' ((i - 1) - 1) (wr' ((i - 1) - 1) ||| wr' (i - 1))) (i - 1) i) (kx_sh nm (i - 1) i) (i - 1) T (nI 0) off told wia) H := hP
      have hD : va_D A (wX1 cA g0 r1 r2 r3 r4 r5 ce w (rx_sw we (i - 1) (32 * (i - 1))) (kx_sh (upd wr' ((i - 1) - 1) (wr' ((i - 1) - 1) ||| wr' (i - 1))) (i - 1) i) (kx_sh nm (i - 1) i) (i - 1) T (nI 0) off told wia) := hD
      have hi1 : 1 ≤ i := by omega
      rw [cw_1 nm hi1, rx_sw_0, cw_1 _ hi1] at hP hD
      have hP : va_P (dC, dI) vwCl (wX1 cA g0 r1 r2 r3 r4 r5 ce w we (upd wr' (i - 1 - 1) (wr' (i - 1 - 1) ||| wr' (i - 1))) nm (i - 1) T (nI 0) off told wia) H := by exact hP
      have hD : va_D A (wX1 cA g0 r1 r2 r3 r4 r5 ce w we (upd wr' (i - 1 - 1) (wr' (i - 1 - 1) ||| wr' (i - 1))) nm (i - 1) T (nI 0) off told wia) := by exact hD
      refine lv_goto (tgt := 33) hx hb dX1_commit_53 (by decide) ?_
      exact ih (i - 1) _ (by omega) (by omega) (by rw [← he, show i = (i - 1) + 1 by omega, rx_cw, if_neg (by omega)]; rfl) _ _ _ hP hD hS (lv_sub hl [0, 1] rfl)
  exact lp (n - kx_inn nm n) n wr (by omega) (Nat.le_refl _) rfl _ _ _ hP hD hS (lv_sub hl [1, 0] rfl)
set_option maxHeartbeats 4000000 in
set_option maxRecDepth 100000 in
/-- NestCellsModel.commit_o  -/
theorem c_X1_commit_o (l : Launch) (dC : Nat → ClassId) (dI : Nat → Nat → Nat) (cA : ClassId) (g0 r1 r2 r3 r4 r5 : Nat) (ce w we wr nm : Nat → Int32) (n T : Nat) (cd off told wia : Int32)  (ho : off = 0) (hT8 : T ≤ 8) (hn : n ≤ 88) (hj : 1 ≤ kx_inn nm n) (hT : T = 1) : kMi l yX1_commit wsX1_commit ({ frames := 2, cells := 0, slots := 0, locals := 45 }) dC dI [(cA, .int)] (wX1 cA g0 r1 r2 r3 r4 r5 ce w we wr nm n T cd off told wia) [.ref g0] (if (kx_kd ((rx_cw (kx_inn nm n) n wr) 0) ce (w, told, wia, off)).2.2.2 = 0 then nI 0 else (-1)) (wX1 cA g0 r1 r2 r3 r4 r5 ce ((kx_kd ((rx_cw (kx_inn nm n) n wr) 0) ce (w, told, wia, off)).1) we (rx_cw (kx_inn nm n) n wr) nm 0 0 (nI 0) ((kx_kd ((rx_cw (kx_inn nm n) n wr) 0) ce (w, told, wia, off)).2.2.2) ((kx_kd ((rx_cw (kx_inn nm n) n wr) 0) ce (w, told, wia, off)).2.1) ((kx_kd ((rx_cw (kx_inn nm n) n wr) 0) ce (w, told, wia, off)).2.2.1)) := by
  refine kMi_of (cc := cX1_commit) (maxL := 2) (ret := (some .int)) (by decide) rfl (Nat.le_of_ble_eq_true rfl) ?_
  intro p e s m below meth c A ls hx hb hml hr hts hown hlocks hA hP hK hD hS hl
  have hin : ∀ w ∈ u_ws RX1 TX1 11, w ∈ wsX1_commit := by decide +kernel
  have hl : lv_has ls 2 [(0, .ref g0)] := hl
  have hjn := kx_inn_le nm n
  refine lv_aload_n hx hb dX1_commit_0 rfl (lv_at hl 0 rfl) ?_
  refine lv_aload_n hx hb dX1_commit_1 rfl (lv_at hl 0 rfl) ?_
  refine va_get (D := (dC, dI)) (ci := 1) (v := .int off) (C := RX1) (T := TX1) (N := 11) hx hb hts hin hown hK hP 0 rfl rfl 8 (by decide) (hts (.fieldLink RX1 39 "NestCellsModel" "off" "Z") (by decide +kernel)) (fun _ h9 => h9) rfl dX1_commit_2 ?_
  refine lv_if_ne (tgt := 15) hx hb dX1_commit_5 (by decide) (fun h5_0 => absurd h5_0 (fun q => q ho)) (fun h5_0 => ?_)
  refine lv_aload_n hx hb dX1_commit_8 rfl (lv_at hl 0 rfl) ?_
  refine va_get (D := (dC, dI)) (ci := 1) (v := .int (nI T)) (C := RX1) (T := TX1) (N := 11) hx hb hts hin hown hK hP 0 rfl rfl 7 (by decide) (hts (.fieldLink RX1 36 "NestCellsModel" "transactions" "I") (by decide +kernel)) (fun _ h9 => h9) rfl dX1_commit_9 ?_
  refine kv_if_ne (tgt := 19) hx hb (by omega) dX1_commit_12 (by decide) (fun h12_0 => ?_) (fun h12_0 => absurd h12_0 (by omega))
  refine lv_iconst (v := (nI 0)) hx hb dX1_commit_19 (by decide) ?_
  refine kv_Vi (Xr := []) (n := 1) (c_X1_refuses_0 l dC dI cA g0 r1 r2 r3 r4 r5 ce w we wr nm n T cd off told wia  ) hx hb hml hown hts gX1_commit_X1_refuses rfl ⟨rfl, rfl⟩ (by decide +kernel) rfl ⟨Nat.le_of_ble_eq_true rfl, Nat.le_of_ble_eq_true rfl⟩ hK hP hD hS hA [0] [0, 1, 2, 3, 4, 5] [] rfl rfl rfl (by decide) (by decide) (q0 := 0) rfl rfl rfl (by decide) hl.1 rfl (Nat.le_of_ble_eq_true rfl) dX1_commit_20 ⟨Nat.zero_le _, Nat.zero_le _⟩ (fun H locs hP hD hS => ?_)
  have hP : va_P (dC, dI) vwCl (wX1 cA g0 r1 r2 r3 r4 r5 ce w we wr nm n T (nI 0) off told wia) H := hP
  have hD : va_D A (wX1 cA g0 r1 r2 r3 r4 r5 ce w we wr nm n T (nI 0) off told wia) := hD
  refine kv_if_eq (tgt := 28) hx hb (by omega) dX1_commit_23 (by decide) (fun _ => ?_) (fun h9 => absurd h9 (by omega))
  refine lv_aload_n hx hb dX1_commit_28 rfl (lv_at hl 0 rfl) ?_
  refine kv_Vi (Xr := []) (n := 0) (c_X1_first l dC dI cA g0 r1 r2 r3 r4 r5 ce w we wr nm n T (nI 0) off told wia  (by omega) (by omega)) hx hb hml hown hts gX1_commit_X1_first rfl ⟨rfl, rfl⟩ (by decide +kernel) rfl ⟨Nat.le_of_ble_eq_true rfl, Nat.le_of_ble_eq_true rfl⟩ hK hP hD hS hA [0] [0, 1, 2, 3, 4, 5] [] rfl rfl rfl (by decide) (by decide) (q0 := 0) rfl rfl rfl (by decide) hl.1 rfl (Nat.le_of_ble_eq_true rfl) dX1_commit_29 ⟨Nat.zero_le _, Nat.zero_le _⟩ (fun H locs hP hD hS => ?_)
  have hP : va_P (dC, dI) vwCl (wX1 cA g0 r1 r2 r3 r4 r5 ce w we wr nm n T (nI 0) off told wia) H := hP
  have hD : va_D A (wX1 cA g0 r1 r2 r3 r4 r5 ce w we wr nm n T (nI 0) off told wia) := hD
  refine lv_istore_n (lv' := [(1, .int (nI (kx_inn nm n - 1))), (0, .ref g0)]) hx hb dX1_commit_32 rfl hl (by decide) rfl (fun ls hl => ?_)
  have lp : ∀ (k : Nat) (i : Nat) (wr' : Nat → Int32), ∀ (_ : i = kx_inn nm n + k), ∀ (_ : i ≤ n), ∀ (_ : rx_cw (kx_inn nm n) i wr' = rx_cw (kx_inn nm n) n wr), ∀ (H : Heap) (locs : List Loc) (ls : Array Slot), va_P (dC, dI) vwCl (wX1 cA g0 r1 r2 r3 r4 r5 ce w we wr' nm i T (nI 0) off told wia) H → va_D A (wX1 cA g0 r1 r2 r3 r4 r5 ce w we wr' nm i T (nI 0) off told wia) → va_S A s.heap H locs → lv_has ls 2 [(0, .ref g0), (1, .int (nI (kx_inn nm n - 1)))] → W p l e (headSpec wsX1_commit ({ frames := 2, cells := 0, slots := 0, locals := 45 })).room s m ([.ref g0] : List Value).toArray below meth c H locs 0 0 (MQ below (va_Qi (fun (r' : Int32) (_ : Unit) => r' = (if (kx_kd ((rx_cw (kx_inn nm n) n wr) 0) ce (w, told, wia, off)).2.2.2 = 0 then nI 0 else (-1))) (kB dC dI [(cA, .int)] (wX1 cA g0 r1 r2 r3 r4 r5 ce ((kx_kd ((rx_cw (kx_inn nm n) n wr) 0) ce (w, told, wia, off)).1) we (rx_cw (kx_inn nm n) n wr) nm 0 0 (nI 0) ((kx_kd ((rx_cw (kx_inn nm n) n wr) 0) ce (w, told, wia, off)).2.2.2) ((kx_kd ((rx_cw (kx_inn nm n) n wr) 0) ce (w, told, wia, off)).2.1) ((kx_kd ((rx_cw (kx_inn nm n) n wr) 0) ce (w, told, wia, off)).2.2.1)) A) A) ([.ref g0] : List Value).toArray s 0 0 A) (F0 m 33 ls []) := by
    intro k
    induction k with
    | zero =>
      intro i wr' hi hin8 he H locs ls hP hD hS hl
      have hi0 : i = kx_inn nm n := by omega
      have hW0 : wr' = rx_cw (kx_inn nm n) n wr := by rw [← he, hi0]; cases hjc : kx_inn nm n with | zero => omega | succ q => rw [rx_cw, if_pos (Nat.le_refl _)]
      rw [hi0] at hP hD
      have hP : va_P (dC, dI) vwCl (wX1 cA g0 r1 r2 r3 r4 r5 ce w we (rx_cw (kx_inn nm n) n wr) nm (kx_inn nm n) T (nI 0) off told wia) H := by rw [← hW0]; exact hP
      have hD : va_D A (wX1 cA g0 r1 r2 r3 r4 r5 ce w we (rx_cw (kx_inn nm n) n wr) nm (kx_inn nm n) T (nI 0) off told wia) := by rw [← hW0]; exact hD
      refine lv_aload_n hx hb dX1_commit_33 rfl (lv_at hl 0 rfl) ?_
      refine va_get (D := (dC, dI)) (ci := 1) (v := .int (nI (kx_inn nm n))) (C := RX1) (T := TX1) (N := 11) hx hb hts hin hown hK hP 0 rfl rfl 6 (by decide) (hts (.fieldLink RX1 29 "NestCellsModel" "levels" "I") (by decide +kernel)) (fun _ h9 => h9) rfl dX1_commit_34 ?_
      refine lv_iconst (v := (nI 1)) hx hb dX1_commit_37 (by decide) ?_
      refine kv_subE (d := (kx_inn nm n) - 1) hx hb (by omega) dX1_commit_38 ?_
      refine lv_iload_n hx hb dX1_commit_39 rfl (lv_at hl 1 rfl) ?_
      refine kv_le (tgt := 56) hx hb (by omega) (by omega) dX1_commit_40 (by decide) (fun h40_0 => ?_) (fun h40_0 => absurd h40_0 (by omega))
      refine lv_aload_n hx hb dX1_commit_56 rfl (lv_at hl 0 rfl) ?_
      refine va_get (D := (dC, dI)) (ci := 1) (v := .int (nI T)) (C := RX1) (T := TX1) (N := 11) hx hb hts hin hown hK hP 0 rfl rfl 7 (by decide) (hts (.fieldLink RX1 36 "NestCellsModel" "transactions" "I") (by decide +kernel)) (fun _ h9 => h9) rfl dX1_commit_57 ?_
      refine lv_iconst (v := (nI 1)) hx hb dX1_commit_60 (by decide) ?_
      refine kv_le (tgt := 72) hx hb (by omega) (by omega) dX1_commit_61 (by decide) (fun h61_0 => ?_) (fun h61_0 => absurd h61_0 (by omega))
      refine lv_aload_n hx hb dX1_commit_72 rfl (lv_at hl 0 rfl) ?_
      refine lv_aload_n hx hb dX1_commit_73 rfl (lv_at hl 0 rfl) ?_
      refine va_get (D := (dC, dI)) (ci := 1) (v := .ref r4) (C := RX1) (T := TX1) (N := 11) hx hb hts hin hown hK hP 0 rfl rfl 4 (by decide) (hts (.fieldLink RX1 19 "NestCellsModel" "written" "[I") (by decide +kernel)) (fun _ h9 => h9) rfl dX1_commit_74 ?_
      refine lv_iconst (v := (nI 0)) hx hb dX1_commit_77 (by decide) ?_
      refine kv_iald hx hb hK hP 4 0 rfl rfl (by omega) (by omega) dX1_commit_78 ?_
      refine kv_Vi (Xr := []) (n := 1) (c_X1_stores l dC dI cA g0 r1 r2 r3 r4 r5 ce w we (rx_cw (kx_inn nm n) n wr) nm (kx_inn nm n) T (nI 0) off told wia ((rx_cw (kx_inn nm n) n wr) 0) ho) hx hb hml hown hts gX1_commit_X1_stores rfl ⟨rfl, rfl⟩ (by decide +kernel) rfl ⟨Nat.le_of_ble_eq_true rfl, Nat.le_of_ble_eq_true rfl⟩ hK hP hD hS hA [0] [0, 1, 2, 3, 4, 5] [] rfl rfl rfl (by decide) (by decide) (q0 := 0) rfl rfl rfl (by decide) hl.1 rfl (Nat.le_of_ble_eq_true rfl) dX1_commit_79 ⟨Nat.zero_le _, Nat.zero_le _⟩ (fun H locs hP hD hS => ?_)
      have hP : va_P (dC, dI) vwCl (wX1 cA g0 r1 r2 r3 r4 r5 ce ((kx_kd ((rx_cw (kx_inn nm n) n wr) 0) ce (w, told, wia, off)).1) we (rx_cw (kx_inn nm n) n wr) nm (if (kx_kd ((rx_cw (kx_inn nm n) n wr) 0) ce (w, told, wia, off)).2.2.2 = 0 then (kx_inn nm n) else 0) (if (kx_kd ((rx_cw (kx_inn nm n) n wr) 0) ce (w, told, wia, off)).2.2.2 = 0 then T else 0) (nI 0) ((kx_kd ((rx_cw (kx_inn nm n) n wr) 0) ce (w, told, wia, off)).2.2.2) ((kx_kd ((rx_cw (kx_inn nm n) n wr) 0) ce (w, told, wia, off)).2.1) ((kx_kd ((rx_cw (kx_inn nm n) n wr) 0) ce (w, told, wia, off)).2.2.1)) H := hP
      have hD : va_D A (wX1 cA g0 r1 r2 r3 r4 r5 ce ((kx_kd ((rx_cw (kx_inn nm n) n wr) 0) ce (w, told, wia, off)).1) we (rx_cw (kx_inn nm n) n wr) nm (if (kx_kd ((rx_cw (kx_inn nm n) n wr) 0) ce (w, told, wia, off)).2.2.2 = 0 then (kx_inn nm n) else 0) (if (kx_kd ((rx_cw (kx_inn nm n) n wr) 0) ce (w, told, wia, off)).2.2.2 = 0 then T else 0) (nI 0) ((kx_kd ((rx_cw (kx_inn nm n) n wr) 0) ce (w, told, wia, off)).2.2.2) ((kx_kd ((rx_cw (kx_inn nm n) n wr) 0) ce (w, told, wia, off)).2.1) ((kx_kd ((rx_cw (kx_inn nm n) n wr) 0) ce (w, told, wia, off)).2.2.1)) := hD
      by_cases hb82 : (kx_kd ((rx_cw (kx_inn nm n) n wr) 0) ce (w, told, wia, off)).2.2.2 = 0
      · skip
        rw [if_pos hb82, if_pos hb82] at hP hD
        refine kv_top (w := .int (nI 1)) (by rw [if_pos hb82]) ?_
        have hP : va_P (dC, dI) vwCl (wX1 cA g0 r1 r2 r3 r4 r5 ce ((kx_kd ((rx_cw (kx_inn nm n) n wr) 0) ce (w, told, wia, off)).1) we (rx_cw (kx_inn nm n) n wr) nm (kx_inn nm n) T (nI 0) ((kx_kd ((rx_cw (kx_inn nm n) n wr) 0) ce (w, told, wia, off)).2.2.2) ((kx_kd ((rx_cw (kx_inn nm n) n wr) 0) ce (w, told, wia, off)).2.1) ((kx_kd ((rx_cw (kx_inn nm n) n wr) 0) ce (w, told, wia, off)).2.2.1)) H := hP
        have hD : va_D A (wX1 cA g0 r1 r2 r3 r4 r5 ce ((kx_kd ((rx_cw (kx_inn nm n) n wr) 0) ce (w, told, wia, off)).1) we (rx_cw (kx_inn nm n) n wr) nm (kx_inn nm n) T (nI 0) ((kx_kd ((rx_cw (kx_inn nm n) n wr) 0) ce (w, told, wia, off)).2.2.2) ((kx_kd ((rx_cw (kx_inn nm n) n wr) 0) ce (w, told, wia, off)).2.1) ((kx_kd ((rx_cw (kx_inn nm n) n wr) 0) ce (w, told, wia, off)).2.2.1)) := hD
        refine kv_if_ne (tgt := 87) hx hb (by omega) dX1_commit_82 (by decide) (fun _ => ?_) (fun h9 => absurd h9 (by omega))
        refine lv_aload_n hx hb dX1_commit_87 rfl (lv_at hl 0 rfl) ?_
        refine lv_iconst (v := (nI 0)) hx hb dX1_commit_88 (by decide) ?_
        refine va_put (D := (dC, dI)) (ci := 1) (v := .int (nI 0)) (ty := .int) (C := RX1) (T := TX1) (N := 11) hx hb hts hin tyX1 tyX1_ok nmX1 hown hK hP hD hS 0 rfl rfl 6 (by decide) (hts (.fieldLink RX1 29 "NestCellsModel" "levels" "I") (by decide +kernel)) (fun _ h9 => h9) rfl (by decide +kernel) rfl rfl (Nat.le_of_ble_eq_true rfl) dX1_commit_89 (fun H locs hP hD hS => ?_)
        have hP : va_P (dC, dI) vwCl (wX1 cA g0 r1 r2 r3 r4 r5 ce ((kx_kd ((rx_cw (kx_inn nm n) n wr) 0) ce (w, told, wia, off)).1) we (rx_cw (kx_inn nm n) n wr) nm 0 T (nI 0) ((kx_kd ((rx_cw (kx_inn nm n) n wr) 0) ce (w, told, wia, off)).2.2.2) ((kx_kd ((rx_cw (kx_inn nm n) n wr) 0) ce (w, told, wia, off)).2.1) ((kx_kd ((rx_cw (kx_inn nm n) n wr) 0) ce (w, told, wia, off)).2.2.1)) H := hP
        have hD : va_D A (wX1 cA g0 r1 r2 r3 r4 r5 ce ((kx_kd ((rx_cw (kx_inn nm n) n wr) 0) ce (w, told, wia, off)).1) we (rx_cw (kx_inn nm n) n wr) nm 0 T (nI 0) ((kx_kd ((rx_cw (kx_inn nm n) n wr) 0) ce (w, told, wia, off)).2.2.2) ((kx_kd ((rx_cw (kx_inn nm n) n wr) 0) ce (w, told, wia, off)).2.1) ((kx_kd ((rx_cw (kx_inn nm n) n wr) 0) ce (w, told, wia, off)).2.2.1)) := hD
        refine lv_aload_n hx hb dX1_commit_92 rfl (lv_at hl 0 rfl) ?_
        refine lv_dup hx hb dX1_commit_93 rfl ?_
        refine va_get (D := (dC, dI)) (ci := 1) (v := .int (nI T)) (C := RX1) (T := TX1) (N := 11) hx hb hts hin hown hK hP 0 rfl rfl 7 (by decide) (hts (.fieldLink RX1 36 "NestCellsModel" "transactions" "I") (by decide +kernel)) (fun _ h9 => h9) rfl dX1_commit_94 ?_
        refine lv_iconst (v := (nI 1)) hx hb dX1_commit_97 (by decide) ?_
        refine kv_subE (d := T - 1) hx hb (by omega) dX1_commit_98 ?_
        refine va_put (D := (dC, dI)) (ci := 1) (v := .int (nI (T - 1))) (ty := .int) (C := RX1) (T := TX1) (N := 11) hx hb hts hin tyX1 tyX1_ok nmX1 hown hK hP hD hS 0 rfl rfl 7 (by decide) (hts (.fieldLink RX1 36 "NestCellsModel" "transactions" "I") (by decide +kernel)) (fun _ h9 => h9) rfl (by decide +kernel) rfl rfl (Nat.le_of_ble_eq_true rfl) dX1_commit_99 (fun H locs hP hD hS => ?_)
        have hP : va_P (dC, dI) vwCl (wX1 cA g0 r1 r2 r3 r4 r5 ce ((kx_kd ((rx_cw (kx_inn nm n) n wr) 0) ce (w, told, wia, off)).1) we (rx_cw (kx_inn nm n) n wr) nm 0 (T - 1) (nI 0) ((kx_kd ((rx_cw (kx_inn nm n) n wr) 0) ce (w, told, wia, off)).2.2.2) ((kx_kd ((rx_cw (kx_inn nm n) n wr) 0) ce (w, told, wia, off)).2.1) ((kx_kd ((rx_cw (kx_inn nm n) n wr) 0) ce (w, told, wia, off)).2.2.1)) H := hP
        have hD : va_D A (wX1 cA g0 r1 r2 r3 r4 r5 ce ((kx_kd ((rx_cw (kx_inn nm n) n wr) 0) ce (w, told, wia, off)).1) we (rx_cw (kx_inn nm n) n wr) nm 0 (T - 1) (nI 0) ((kx_kd ((rx_cw (kx_inn nm n) n wr) 0) ce (w, told, wia, off)).2.2.2) ((kx_kd ((rx_cw (kx_inn nm n) n wr) 0) ce (w, told, wia, off)).2.1) ((kx_kd ((rx_cw (kx_inn nm n) n wr) 0) ce (w, told, wia, off)).2.2.1)) := hD
        refine lv_aload_n hx hb dX1_commit_102 rfl (lv_at hl 0 rfl) ?_
        refine va_get (D := (dC, dI)) (ci := 1) (v := .int (nI (T - 1))) (C := RX1) (T := TX1) (N := 11) hx hb hts hin hown hK hP 0 rfl rfl 7 (by decide) (hts (.fieldLink RX1 36 "NestCellsModel" "transactions" "I") (by decide +kernel)) (fun _ h9 => h9) rfl dX1_commit_103 ?_
        exact kMi_ret hx hb hr hlocks hP hK hD hS dX1_commit_106 (by rw [if_pos hb82]; subst hT; rfl) (by subst hT; rfl)
      · skip
        rw [if_neg hb82, if_neg hb82] at hP hD
        refine kv_top (w := .int (nI 0)) (by rw [if_neg hb82]) ?_
        have hP : va_P (dC, dI) vwCl (wX1 cA g0 r1 r2 r3 r4 r5 ce ((kx_kd ((rx_cw (kx_inn nm n) n wr) 0) ce (w, told, wia, off)).1) we (rx_cw (kx_inn nm n) n wr) nm 0 0 (nI 0) ((kx_kd ((rx_cw (kx_inn nm n) n wr) 0) ce (w, told, wia, off)).2.2.2) ((kx_kd ((rx_cw (kx_inn nm n) n wr) 0) ce (w, told, wia, off)).2.1) ((kx_kd ((rx_cw (kx_inn nm n) n wr) 0) ce (w, told, wia, off)).2.2.1)) H := hP
        have hD : va_D A (wX1 cA g0 r1 r2 r3 r4 r5 ce ((kx_kd ((rx_cw (kx_inn nm n) n wr) 0) ce (w, told, wia, off)).1) we (rx_cw (kx_inn nm n) n wr) nm 0 0 (nI 0) ((kx_kd ((rx_cw (kx_inn nm n) n wr) 0) ce (w, told, wia, off)).2.2.2) ((kx_kd ((rx_cw (kx_inn nm n) n wr) 0) ce (w, told, wia, off)).2.1) ((kx_kd ((rx_cw (kx_inn nm n) n wr) 0) ce (w, told, wia, off)).2.2.1)) := hD
        refine kv_if_ne (tgt := 87) hx hb (by omega) dX1_commit_82 (by decide) (fun h9 => absurd h9 (by omega)) (fun _ => ?_)
        refine lv_iconst (v := (-1)) hx hb dX1_commit_85 (by decide) ?_
        exact kMi_ret hx hb hr hlocks hP hK hD hS dX1_commit_86 (by rw [if_neg hb82]) rfl
    | succ k ih =>
      intro i wr' hi hin8 he H locs ls hP hD hS hl
      refine lv_aload_n hx hb dX1_commit_33 rfl (lv_at hl 0 rfl) ?_
      refine va_get (D := (dC, dI)) (ci := 1) (v := .int (nI i)) (C := RX1) (T := TX1) (N := 11) hx hb hts hin hown hK hP 0 rfl rfl 6 (by decide) (hts (.fieldLink RX1 29 "NestCellsModel" "levels" "I") (by decide +kernel)) (fun _ h9 => h9) rfl dX1_commit_34 ?_
      refine lv_iconst (v := (nI 1)) hx hb dX1_commit_37 (by decide) ?_
      refine kv_subE (d := i - 1) hx hb (by omega) dX1_commit_38 ?_
      refine lv_iload_n hx hb dX1_commit_39 rfl (lv_at hl 1 rfl) ?_
      refine kv_le (tgt := 56) hx hb (by omega) (by omega) dX1_commit_40 (by decide) (fun h40_0 => absurd h40_0 (by omega)) (fun h40_0 => ?_)
      refine lv_aload_n hx hb dX1_commit_43 rfl (lv_at hl 0 rfl) ?_
      refine lv_aload_n hx hb dX1_commit_44 rfl (lv_at hl 0 rfl) ?_
      refine va_get (D := (dC, dI)) (ci := 1) (v := .int (nI i)) (C := RX1) (T := TX1) (N := 11) hx hb hts hin hown hK hP 0 rfl rfl 6 (by decide) (hts (.fieldLink RX1 29 "NestCellsModel" "levels" "I") (by decide +kernel)) (fun _ h9 => h9) rfl dX1_commit_45 ?_
      refine lv_iconst (v := (nI 1)) hx hb dX1_commit_48 (by decide) ?_
      refine kv_subE (d := i - 1) hx hb (by omega) dX1_commit_49 ?_
      refine kv_Vv (Xr := []) (n := 1) (c_X1_melts l dC dI cA g0 r1 r2 r3 r4 r5 ce w we wr' nm i T (nI 0) off told wia (i - 1) (by omega) (by omega) (by omega)) hx hb hml hown hts gX1_commit_X1_melts rfl ⟨rfl, rfl⟩ (by decide +kernel) rfl ⟨Nat.le_of_ble_eq_true rfl, Nat.le_of_ble_eq_true rfl⟩ hK hP hD hS hA [0] [0, 1, 2, 3, 4, 5] [] rfl rfl rfl (by decide) (by decide) (q0 := 0) rfl rfl rfl (by decide) hl.1 rfl (Nat.le_of_ble_eq_true rfl) dX1_commit_50 ⟨Nat.zero_le _, Nat.zero_le _⟩ (fun H locs hP hD hS => ?_)
      have hP : va_P (dC, dI) vwCl (wX1 cA g0 r1 r2 r3 r4 r5 ce w (rx_sw we (i - 1) (32 * (i - 1))) (kx_sh (upd wr' ((i - 1) - 1) (wr' ((i - 1) - 1) ||| wr' (i - 1))) (i - 1) i) (kx_sh nm (i - 1) i) (i - 1) T (nI 0) off told wia) H := hP
      have hD : va_D A (wX1 cA g0 r1 r2 r3 r4 r5 ce w (rx_sw we (i - 1) (32 * (i - 1))) (kx_sh (upd wr' ((i - 1) - 1) (wr' ((i - 1) - 1) ||| wr' (i - 1))) (i - 1) i) (kx_sh nm (i - 1) i) (i - 1) T (nI 0) off told wia) := hD
      have hi1 : 1 ≤ i := by omega
      rw [cw_1 nm hi1, rx_sw_0, cw_1 _ hi1] at hP hD
      have hP : va_P (dC, dI) vwCl (wX1 cA g0 r1 r2 r3 r4 r5 ce w we (upd wr' (i - 1 - 1) (wr' (i - 1 - 1) ||| wr' (i - 1))) nm (i - 1) T (nI 0) off told wia) H := by exact hP
      have hD : va_D A (wX1 cA g0 r1 r2 r3 r4 r5 ce w we (upd wr' (i - 1 - 1) (wr' (i - 1 - 1) ||| wr' (i - 1))) nm (i - 1) T (nI 0) off told wia) := by exact hD
      refine lv_goto (tgt := 33) hx hb dX1_commit_53 (by decide) ?_
      exact ih (i - 1) _ (by omega) (by omega) (by rw [← he, show i = (i - 1) + 1 by omega, rx_cw, if_neg (by omega)]; rfl) _ _ _ hP hD hS (lv_sub hl [0, 1] rfl)
  exact lp (n - kx_inn nm n) n wr (by omega) (Nat.le_refl _) rfl _ _ _ hP hD hS (lv_sub hl [1, 0] rfl)
set_option maxHeartbeats 4000000 in
set_option maxRecDepth 100000 in
/-- NestCellsModel.abort_x  -/
theorem c_X1_abort_x (l : Launch) (dC : Nat → ClassId) (dI : Nat → Nat → Nat) (cA : ClassId) (g0 r1 r2 r3 r4 r5 : Nat) (ce w we wr nm : Nat → Int32) (n T : Nat) (cd off told wia : Int32)  (hx9 : ¬ off = 0 ∨ T = 0) (hT8 : T ≤ 8) : kMi l yX1_abort wsX1_abort ({ frames := 2, cells := 0, slots := 0, locals := 45 }) dC dI [(cA, .int)] (wX1 cA g0 r1 r2 r3 r4 r5 ce w we wr nm n T cd off told wia) [.ref g0] (nI 0) (wX1 cA g0 r1 r2 r3 r4 r5 ce w we wr nm n T (nI 1) off told wia) := by
  refine kMi_of (cc := cX1_abort) (maxL := 3) (ret := (some .int)) (by decide) rfl (Nat.le_of_ble_eq_true rfl) ?_
  intro p e s m below meth c A ls hx hb hml hr hts hown hlocks hA hP hK hD hS hl
  have hin : ∀ w ∈ u_ws RX1 TX1 11, w ∈ wsX1_abort := by decide +kernel
  have hl : lv_has ls 3 [(0, .ref g0)] := hl
  refine lv_aload_n hx hb dX1_abort_0 rfl (lv_at hl 0 rfl) ?_
  refine lv_aload_n hx hb dX1_abort_1 rfl (lv_at hl 0 rfl) ?_
  refine va_get (D := (dC, dI)) (ci := 1) (v := .int off) (C := RX1) (T := TX1) (N := 11) hx hb hts hin hown hK hP 0 rfl rfl 8 (by decide) (hts (.fieldLink RX1 39 "NestCellsModel" "off" "Z") (by decide +kernel)) (fun _ h9 => h9) rfl dX1_abort_2 ?_
  refine lv_if_ne (tgt := 15) hx hb dX1_abort_5 (by decide) (fun h5_0 => ?_) (fun h5_0 => ?_)
  · skip
    refine lv_iconst (v := (nI 1)) hx hb dX1_abort_15 (by decide) ?_
    refine lv_goto (tgt := 20) hx hb dX1_abort_16 (by decide) ?_
    refine kv_Vi (Xr := []) (n := 1) (c_X1_refuses_1 l dC dI cA g0 r1 r2 r3 r4 r5 ce w we wr nm n T cd off told wia  ) hx hb hml hown hts gX1_abort_X1_refuses rfl ⟨rfl, rfl⟩ (by decide +kernel) rfl ⟨Nat.le_of_ble_eq_true rfl, Nat.le_of_ble_eq_true rfl⟩ hK hP hD hS hA [0] [0, 1, 2, 3, 4, 5] [] rfl rfl rfl (by decide) (by decide) (q0 := 0) rfl rfl rfl (by decide) hl.1 rfl (Nat.le_of_ble_eq_true rfl) dX1_abort_20 ⟨Nat.zero_le _, Nat.zero_le _⟩ (fun H locs hP hD hS => ?_)
    have hP : va_P (dC, dI) vwCl (wX1 cA g0 r1 r2 r3 r4 r5 ce w we wr nm n T (nI 1) off told wia) H := hP
    have hD : va_D A (wX1 cA g0 r1 r2 r3 r4 r5 ce w we wr nm n T (nI 1) off told wia) := hD
    refine kv_if_eq (tgt := 28) hx hb (by omega) dX1_abort_23 (by decide) (fun h9 => absurd h9 (by omega)) (fun _ => ?_)
    refine lv_iconst (v := (nI 0)) hx hb dX1_abort_26 (by decide) ?_
    exact kMi_ret hx hb hr hlocks hP hK hD hS dX1_abort_27 rfl rfl
  · skip
    refine lv_aload_n hx hb dX1_abort_8 rfl (lv_at hl 0 rfl) ?_
    refine va_get (D := (dC, dI)) (ci := 1) (v := .int (nI T)) (C := RX1) (T := TX1) (N := 11) hx hb hts hin hown hK hP 0 rfl rfl 7 (by decide) (hts (.fieldLink RX1 36 "NestCellsModel" "transactions" "I") (by decide +kernel)) (fun _ h9 => h9) rfl dX1_abort_9 ?_
    refine kv_if_ne (tgt := 19) hx hb (by omega) dX1_abort_12 (by decide) (fun h12_1 => absurd h12_1 (by have r9 := hx9.resolve_left (fun r => r h5_0); omega)) (fun h12_1 => ?_)
    refine lv_iconst (v := (nI 1)) hx hb dX1_abort_15 (by decide) ?_
    refine lv_goto (tgt := 20) hx hb dX1_abort_16 (by decide) ?_
    refine kv_Vi (Xr := []) (n := 1) (c_X1_refuses_1 l dC dI cA g0 r1 r2 r3 r4 r5 ce w we wr nm n T cd off told wia  ) hx hb hml hown hts gX1_abort_X1_refuses rfl ⟨rfl, rfl⟩ (by decide +kernel) rfl ⟨Nat.le_of_ble_eq_true rfl, Nat.le_of_ble_eq_true rfl⟩ hK hP hD hS hA [0] [0, 1, 2, 3, 4, 5] [] rfl rfl rfl (by decide) (by decide) (q0 := 0) rfl rfl rfl (by decide) hl.1 rfl (Nat.le_of_ble_eq_true rfl) dX1_abort_20 ⟨Nat.zero_le _, Nat.zero_le _⟩ (fun H locs hP hD hS => ?_)
    have hP : va_P (dC, dI) vwCl (wX1 cA g0 r1 r2 r3 r4 r5 ce w we wr nm n T (nI 1) off told wia) H := hP
    have hD : va_D A (wX1 cA g0 r1 r2 r3 r4 r5 ce w we wr nm n T (nI 1) off told wia) := hD
    refine kv_if_eq (tgt := 28) hx hb (by omega) dX1_abort_23 (by decide) (fun h9 => absurd h9 (by omega)) (fun _ => ?_)
    refine lv_iconst (v := (nI 0)) hx hb dX1_abort_26 (by decide) ?_
    exact kMi_ret hx hb hr hlocks hP hK hD hS dX1_abort_27 rfl rfl
set_option maxHeartbeats 4000000 in
set_option maxRecDepth 100000 in
/-- NestCellsModel.abort  -/
theorem c_X1_abort (l : Launch) (dC : Nat → ClassId) (dI : Nat → Nat → Nat) (cA : ClassId) (g0 r1 r2 r3 r4 r5 : Nat) (ce w we wr nm : Nat → Int32) (n T : Nat) (cd off told wia : Int32)  (ho : off = 0) (hT : 0 < T) (hT8 : T ≤ 8) (hn : n ≤ 88) (hj : 1 ≤ kx_inn nm n) : kMi l yX1_abort wsX1_abort ({ frames := 2, cells := 0, slots := 0, locals := 45 }) dC dI [(cA, .int)] (wX1 cA g0 r1 r2 r3 r4 r5 ce w we wr nm n T cd off told wia) [.ref g0] (nI (rx_sm wr (kx_inn nm n - 1) (n - (kx_inn nm n - 1)))) (wX1 cA g0 r1 r2 r3 r4 r5 (rx_ce ce we (kx_inn nm n - 1) 32) w we wr nm (kx_inn nm n - 1) (T - 1) (nI 0) off told wia) := by
  refine kMi_of (cc := cX1_abort) (maxL := 3) (ret := (some .int)) (by decide) rfl (Nat.le_of_ble_eq_true rfl) ?_
  intro p e s m below meth c A ls hx hb hml hr hts hown hlocks hA hP hK hD hS hl
  have hin : ∀ w ∈ u_ws RX1 TX1 11, w ∈ wsX1_abort := by decide +kernel
  have hl : lv_has ls 3 [(0, .ref g0)] := hl
  have hjn := kx_inn_le nm n
  refine lv_aload_n hx hb dX1_abort_0 rfl (lv_at hl 0 rfl) ?_
  refine lv_aload_n hx hb dX1_abort_1 rfl (lv_at hl 0 rfl) ?_
  refine va_get (D := (dC, dI)) (ci := 1) (v := .int off) (C := RX1) (T := TX1) (N := 11) hx hb hts hin hown hK hP 0 rfl rfl 8 (by decide) (hts (.fieldLink RX1 39 "NestCellsModel" "off" "Z") (by decide +kernel)) (fun _ h9 => h9) rfl dX1_abort_2 ?_
  refine lv_if_ne (tgt := 15) hx hb dX1_abort_5 (by decide) (fun h5_0 => absurd h5_0 (fun q => q ho)) (fun h5_0 => ?_)
  refine lv_aload_n hx hb dX1_abort_8 rfl (lv_at hl 0 rfl) ?_
  refine va_get (D := (dC, dI)) (ci := 1) (v := .int (nI T)) (C := RX1) (T := TX1) (N := 11) hx hb hts hin hown hK hP 0 rfl rfl 7 (by decide) (hts (.fieldLink RX1 36 "NestCellsModel" "transactions" "I") (by decide +kernel)) (fun _ h9 => h9) rfl dX1_abort_9 ?_
  refine kv_if_ne (tgt := 19) hx hb (by omega) dX1_abort_12 (by decide) (fun h12_0 => ?_) (fun h12_0 => absurd h12_0 (by omega))
  refine lv_iconst (v := (nI 0)) hx hb dX1_abort_19 (by decide) ?_
  refine kv_Vi (Xr := []) (n := 1) (c_X1_refuses_0 l dC dI cA g0 r1 r2 r3 r4 r5 ce w we wr nm n T cd off told wia  ) hx hb hml hown hts gX1_abort_X1_refuses rfl ⟨rfl, rfl⟩ (by decide +kernel) rfl ⟨Nat.le_of_ble_eq_true rfl, Nat.le_of_ble_eq_true rfl⟩ hK hP hD hS hA [0] [0, 1, 2, 3, 4, 5] [] rfl rfl rfl (by decide) (by decide) (q0 := 0) rfl rfl rfl (by decide) hl.1 rfl (Nat.le_of_ble_eq_true rfl) dX1_abort_20 ⟨Nat.zero_le _, Nat.zero_le _⟩ (fun H locs hP hD hS => ?_)
  have hP : va_P (dC, dI) vwCl (wX1 cA g0 r1 r2 r3 r4 r5 ce w we wr nm n T (nI 0) off told wia) H := hP
  have hD : va_D A (wX1 cA g0 r1 r2 r3 r4 r5 ce w we wr nm n T (nI 0) off told wia) := hD
  refine kv_if_eq (tgt := 28) hx hb (by omega) dX1_abort_23 (by decide) (fun _ => ?_) (fun h9 => absurd h9 (by omega))
  refine lv_aload_n hx hb dX1_abort_28 rfl (lv_at hl 0 rfl) ?_
  refine kv_Vi (Xr := []) (n := 0) (c_X1_first l dC dI cA g0 r1 r2 r3 r4 r5 ce w we wr nm n T (nI 0) off told wia  (by omega) (by omega)) hx hb hml hown hts gX1_abort_X1_first rfl ⟨rfl, rfl⟩ (by decide +kernel) rfl ⟨Nat.le_of_ble_eq_true rfl, Nat.le_of_ble_eq_true rfl⟩ hK hP hD hS hA [0] [0, 1, 2, 3, 4, 5] [] rfl rfl rfl (by decide) (by decide) (q0 := 0) rfl rfl rfl (by decide) hl.1 rfl (Nat.le_of_ble_eq_true rfl) dX1_abort_29 ⟨Nat.zero_le _, Nat.zero_le _⟩ (fun H locs hP hD hS => ?_)
  have hP : va_P (dC, dI) vwCl (wX1 cA g0 r1 r2 r3 r4 r5 ce w we wr nm n T (nI 0) off told wia) H := hP
  have hD : va_D A (wX1 cA g0 r1 r2 r3 r4 r5 ce w we wr nm n T (nI 0) off told wia) := hD
  refine lv_istore_n (lv' := [(1, .int (nI (kx_inn nm n - 1))), (0, .ref g0)]) hx hb dX1_abort_32 rfl hl (by decide) rfl (fun ls hl => ?_)
  refine lv_aload_n hx hb dX1_abort_33 rfl (lv_at hl 1 rfl) ?_
  refine lv_iload_n hx hb dX1_abort_34 rfl (lv_at hl 0 rfl) ?_
  refine kv_Vi (Xr := []) (n := 1) (c_X1_returns l dC dI cA g0 r1 r2 r3 r4 r5 ce w we wr nm n T (nI 0) off told wia (kx_inn nm n - 1) (by omega) (by omega)) hx hb hml hown hts gX1_abort_X1_returns rfl ⟨rfl, rfl⟩ (by decide +kernel) rfl ⟨Nat.le_of_ble_eq_true rfl, Nat.le_of_ble_eq_true rfl⟩ hK hP hD hS hA [0] [0, 1, 2, 3, 4, 5] [] rfl rfl rfl (by decide) (by decide) (q0 := 0) rfl rfl rfl (by decide) hl.1 rfl (Nat.le_of_ble_eq_true rfl) dX1_abort_35 ⟨Nat.zero_le _, Nat.zero_le _⟩ (fun H locs hP hD hS => ?_)
  have hP : va_P (dC, dI) vwCl (wX1 cA g0 r1 r2 r3 r4 r5 (rx_ce ce we (kx_inn nm n - 1) 32) w we wr nm n T (nI 0) off told wia) H := hP
  have hD : va_D A (wX1 cA g0 r1 r2 r3 r4 r5 (rx_ce ce we (kx_inn nm n - 1) 32) w we wr nm n T (nI 0) off told wia) := hD
  refine lv_istore_n (lv' := [(2, .int (nI (rx_sm wr (kx_inn nm n - 1) (n - (kx_inn nm n - 1))))), (1, .int (nI (kx_inn nm n - 1))), (0, .ref g0)]) hx hb dX1_abort_38 rfl hl (by decide) rfl (fun ls hl => ?_)
  refine lv_aload_n hx hb dX1_abort_39 rfl (lv_at hl 2 rfl) ?_
  refine lv_iload_n hx hb dX1_abort_40 rfl (lv_at hl 1 rfl) ?_
  refine va_put (D := (dC, dI)) (ci := 1) (v := .int (nI (kx_inn nm n - 1))) (ty := .int) (C := RX1) (T := TX1) (N := 11) hx hb hts hin tyX1 tyX1_ok nmX1 hown hK hP hD hS 0 rfl rfl 6 (by decide) (hts (.fieldLink RX1 29 "NestCellsModel" "levels" "I") (by decide +kernel)) (fun _ h9 => h9) rfl (by decide +kernel) rfl rfl (Nat.le_of_ble_eq_true rfl) dX1_abort_41 (fun H locs hP hD hS => ?_)
  have hP : va_P (dC, dI) vwCl (wX1 cA g0 r1 r2 r3 r4 r5 (rx_ce ce we (kx_inn nm n - 1) 32) w we wr nm (kx_inn nm n - 1) T (nI 0) off told wia) H := hP
  have hD : va_D A (wX1 cA g0 r1 r2 r3 r4 r5 (rx_ce ce we (kx_inn nm n - 1) 32) w we wr nm (kx_inn nm n - 1) T (nI 0) off told wia) := hD
  refine lv_aload_n hx hb dX1_abort_44 rfl (lv_at hl 2 rfl) ?_
  refine lv_dup hx hb dX1_abort_45 rfl ?_
  refine va_get (D := (dC, dI)) (ci := 1) (v := .int (nI T)) (C := RX1) (T := TX1) (N := 11) hx hb hts hin hown hK hP 0 rfl rfl 7 (by decide) (hts (.fieldLink RX1 36 "NestCellsModel" "transactions" "I") (by decide +kernel)) (fun _ h9 => h9) rfl dX1_abort_46 ?_
  refine lv_iconst (v := (nI 1)) hx hb dX1_abort_49 (by decide) ?_
  refine kv_subE (d := T - 1) hx hb (by omega) dX1_abort_50 ?_
  refine va_put (D := (dC, dI)) (ci := 1) (v := .int (nI (T - 1))) (ty := .int) (C := RX1) (T := TX1) (N := 11) hx hb hts hin tyX1 tyX1_ok nmX1 hown hK hP hD hS 0 rfl rfl 7 (by decide) (hts (.fieldLink RX1 36 "NestCellsModel" "transactions" "I") (by decide +kernel)) (fun _ h9 => h9) rfl (by decide +kernel) rfl rfl (Nat.le_of_ble_eq_true rfl) dX1_abort_51 (fun H locs hP hD hS => ?_)
  have hP : va_P (dC, dI) vwCl (wX1 cA g0 r1 r2 r3 r4 r5 (rx_ce ce we (kx_inn nm n - 1) 32) w we wr nm (kx_inn nm n - 1) (T - 1) (nI 0) off told wia) H := hP
  have hD : va_D A (wX1 cA g0 r1 r2 r3 r4 r5 (rx_ce ce we (kx_inn nm n - 1) 32) w we wr nm (kx_inn nm n - 1) (T - 1) (nI 0) off told wia) := hD
  refine lv_iload_n hx hb dX1_abort_54 rfl (lv_at hl 0 rfl) ?_
  exact kMi_ret hx hb hr hlocks hP hK hD hS dX1_abort_55 rfl rfl
set_option maxHeartbeats 4000000 in
set_option maxRecDepth 100000 in
/-- NestCellsModel.points_0  -/
theorem c_X1_points_0 (l : Launch) (dC : Nat → ClassId) (dI : Nat → Nat → Nat) (cA : ClassId) (g0 r1 r2 r3 r4 r5 : Nat) (ce w we wr nm : Nat → Int32) (n T : Nat) (cd off told wia : Int32)  (hT : T = 0) : kMi l yX1_points wsX1_points ({ frames := 1, cells := 0, slots := 0, locals := 21 }) dC dI [(cA, .int)] (wX1 cA g0 r1 r2 r3 r4 r5 ce w we wr nm n T cd off told wia) [.ref g0] (nI 0) (wX1 cA g0 r1 r2 r3 r4 r5 ce w we wr nm n T cd off told wia) := by
  refine kMi_of (cc := cX1_points) (maxL := 1) (ret := (some .int)) (by decide) rfl (Nat.le_of_ble_eq_true rfl) ?_
  intro p e s m below meth c A ls hx hb hml hr hts hown hlocks hA hP hK hD hS hl
  have hin : ∀ w ∈ u_ws RX1 TX1 11, w ∈ wsX1_points := by decide +kernel
  have hl : lv_has ls 1 [(0, .ref g0)] := hl
  refine lv_aload_n hx hb dX1_points_0 rfl (lv_at hl 0 rfl) ?_
  refine va_get (D := (dC, dI)) (ci := 1) (v := .int (nI T)) (C := RX1) (T := TX1) (N := 11) hx hb hts hin hown hK hP 0 rfl rfl 7 (by decide) (hts (.fieldLink RX1 36 "NestCellsModel" "transactions" "I") (by decide +kernel)) (fun _ h9 => h9) rfl dX1_points_1 ?_
  refine kv_if_ne (tgt := 11) hx hb (by omega) dX1_points_4 (by decide) (fun h4_0 => absurd h4_0 (by omega)) (fun h4_0 => ?_)
  refine lv_iconst (v := (nI 0)) hx hb dX1_points_7 (by decide) ?_
  refine lv_goto (tgt := 22) hx hb dX1_points_8 (by decide) ?_
  exact kMi_ret hx hb hr hlocks hP hK hD hS dX1_points_22 rfl rfl
set_option maxHeartbeats 4000000 in
set_option maxRecDepth 100000 in
/-- NestCellsModel.points_p  -/
theorem c_X1_points_p (l : Launch) (dC : Nat → ClassId) (dI : Nat → Nat → Nat) (cA : ClassId) (g0 r1 r2 r3 r4 r5 : Nat) (ce w we wr nm : Nat → Int32) (n T : Nat) (cd off told wia : Int32)  (hT : 0 < T) (hT8 : T ≤ 8) (hn : n ≤ 88) (hj : 1 ≤ kx_inn nm n) : kMi l yX1_points wsX1_points ({ frames := 1, cells := 0, slots := 0, locals := 21 }) dC dI [(cA, .int)] (wX1 cA g0 r1 r2 r3 r4 r5 ce w we wr nm n T cd off told wia) [.ref g0] (nI (n - kx_inn nm n)) (wX1 cA g0 r1 r2 r3 r4 r5 ce w we wr nm n T cd off told wia) := by
  refine kMi_of (cc := cX1_points) (maxL := 1) (ret := (some .int)) (by decide) rfl (Nat.le_of_ble_eq_true rfl) ?_
  intro p e s m below meth c A ls hx hb hml hr hts hown hlocks hA hP hK hD hS hl
  have hin : ∀ w ∈ u_ws RX1 TX1 11, w ∈ wsX1_points := by decide +kernel
  have hl : lv_has ls 1 [(0, .ref g0)] := hl
  have hjn := kx_inn_le nm n
  refine lv_aload_n hx hb dX1_points_0 rfl (lv_at hl 0 rfl) ?_
  refine va_get (D := (dC, dI)) (ci := 1) (v := .int (nI T)) (C := RX1) (T := TX1) (N := 11) hx hb hts hin hown hK hP 0 rfl rfl 7 (by decide) (hts (.fieldLink RX1 36 "NestCellsModel" "transactions" "I") (by decide +kernel)) (fun _ h9 => h9) rfl dX1_points_1 ?_
  refine kv_if_ne (tgt := 11) hx hb (by omega) dX1_points_4 (by decide) (fun h4_0 => ?_) (fun h4_0 => absurd h4_0 (by omega))
  refine lv_aload_n hx hb dX1_points_11 rfl (lv_at hl 0 rfl) ?_
  refine va_get (D := (dC, dI)) (ci := 1) (v := .int (nI n)) (C := RX1) (T := TX1) (N := 11) hx hb hts hin hown hK hP 0 rfl rfl 6 (by decide) (hts (.fieldLink RX1 29 "NestCellsModel" "levels" "I") (by decide +kernel)) (fun _ h9 => h9) rfl dX1_points_12 ?_
  refine lv_iconst (v := (nI 1)) hx hb dX1_points_15 (by decide) ?_
  refine kv_subE (d := n - 1) hx hb (by omega) dX1_points_16 ?_
  refine lv_aload_n hx hb dX1_points_17 rfl (lv_at hl 0 rfl) ?_
  refine kv_Vi (Xr := []) (n := 0) (c_X1_first l dC dI cA g0 r1 r2 r3 r4 r5 ce w we wr nm n T cd off told wia  (by omega) (by omega)) hx hb hml hown hts gX1_points_X1_first rfl ⟨rfl, rfl⟩ (by decide +kernel) rfl ⟨Nat.le_of_ble_eq_true rfl, Nat.le_of_ble_eq_true rfl⟩ hK hP hD hS hA [0] [0, 1, 2, 3, 4, 5] [] rfl rfl rfl (by decide) (by decide) (q0 := 0) rfl rfl rfl (by decide) hl.1 rfl (Nat.le_of_ble_eq_true rfl) dX1_points_18 ⟨Nat.zero_le _, Nat.zero_le _⟩ (fun H locs hP hD hS => ?_)
  have hP : va_P (dC, dI) vwCl (wX1 cA g0 r1 r2 r3 r4 r5 ce w we wr nm n T cd off told wia) H := hP
  have hD : va_D A (wX1 cA g0 r1 r2 r3 r4 r5 ce w we wr nm n T cd off told wia) := hD
  refine kv_subE (d := (n - 1) - (kx_inn nm n - 1)) hx hb (by omega) dX1_points_21 ?_
  exact kMi_ret hx hb hr hlocks hP hK hD hS dX1_points_22 (by rw [show n - 1 - (kx_inn nm n - 1) = n - kx_inn nm n by omega]) rfl
theorem rx_le9 {x : Int32} (h : x ≤ nI 9) : x < nI 10 := by
  rw [Int32.le_iff_toInt_le] at h
  rw [Int32.lt_iff_toInt_lt]
  have e : (nI 9).toInt = 9 := by decide
  have e0 : (nI 10).toInt = 10 := by decide
  omega
set_option maxHeartbeats 4000000 in
set_option maxRecDepth 100000 in
/-- NestCellsModel.point_a  -/
theorem c_X1_point_a (l : Launch) (dC : Nat → ClassId) (dI : Nat → Nat → Nat) (cA : ClassId) (g0 r1 r2 r3 r4 r5 : Nat) (ce w we wr nm : Nat → Int32) (n T : Nat) (cd off told wia : Int32) (name : Int32) (hw : name < 0 ∨ ¬ name < nI 10) : kMi l yX1_point wsX1_point ({ frames := 2, cells := 0, slots := 0, locals := 41 }) dC dI [(cA, .int)] (wX1 cA g0 r1 r2 r3 r4 r5 ce w we wr nm n T cd off told wia) [.ref g0, .int name] (nI 0) (wX1 cA g0 r1 r2 r3 r4 r5 ce w we wr nm n T (nI 1) off told wia) := by
  refine kMi_of (cc := cX1_point) (maxL := 3) (ret := (some .int)) (by decide) rfl (Nat.le_of_ble_eq_true rfl) ?_
  intro p e s m below meth c A ls hx hb hml hr hts hown hlocks hA hP hK hD hS hl
  have hin : ∀ w ∈ u_ws RX1 TX1 11, w ∈ wsX1_point := by decide +kernel
  have hl : lv_has ls 3 [(0, .ref g0), (1, .int name)] := hl
  refine lv_aload_n hx hb dX1_point_0 rfl (lv_at hl 0 rfl) ?_
  refine lv_iload_n hx hb dX1_point_1 rfl (lv_at hl 1 rfl) ?_
  refine lv_if_lt (tgt := 11) hx hb dX1_point_2 (by decide) (fun h2_0 => ?_) (fun h2_0 => ?_)
  · skip
    refine lv_iconst (v := (nI 1)) hx hb dX1_point_11 (by decide) ?_
    refine lv_goto (tgt := 34) hx hb dX1_point_12 (by decide) ?_
    refine kv_Vi (Xr := []) (n := 1) (c_X1_refuses_1 l dC dI cA g0 r1 r2 r3 r4 r5 ce w we wr nm n T cd off told wia  ) hx hb hml hown hts gX1_point_X1_refuses rfl ⟨rfl, rfl⟩ (by decide +kernel) rfl ⟨Nat.le_of_ble_eq_true rfl, Nat.le_of_ble_eq_true rfl⟩ hK hP hD hS hA [0] [0, 1, 2, 3, 4, 5] [] rfl rfl rfl (by decide) (by decide) (q0 := 0) rfl rfl rfl (by decide) hl.1 rfl (Nat.le_of_ble_eq_true rfl) dX1_point_34 ⟨Nat.zero_le _, Nat.zero_le _⟩ (fun H locs hP hD hS => ?_)
    have hP : va_P (dC, dI) vwCl (wX1 cA g0 r1 r2 r3 r4 r5 ce w we wr nm n T (nI 1) off told wia) H := hP
    have hD : va_D A (wX1 cA g0 r1 r2 r3 r4 r5 ce w we wr nm n T (nI 1) off told wia) := hD
    refine kv_if_eq (tgt := 42) hx hb (by omega) dX1_point_37 (by decide) (fun h9 => absurd h9 (by omega)) (fun _ => ?_)
    refine lv_iconst (v := (nI 0)) hx hb dX1_point_40 (by decide) ?_
    exact kMi_ret hx hb hr hlocks hP hK hD hS dX1_point_41 rfl rfl
  · skip
    refine lv_iload_n hx hb dX1_point_5 rfl (lv_at hl 1 rfl) ?_
    refine lv_bipush (v := (nI 9)) hx hb dX1_point_6 (by decide) ?_
    refine lv_icmp_le (tgt := 15) hx hb dX1_point_8 (by decide) (fun h8_1 => (((hw.elim h2_0 (fun q => q (rx_le9 h8_1)))) : False).elim) (fun h8_1 => ?_)
    refine lv_iconst (v := (nI 1)) hx hb dX1_point_11 (by decide) ?_
    refine lv_goto (tgt := 34) hx hb dX1_point_12 (by decide) ?_
    refine kv_Vi (Xr := []) (n := 1) (c_X1_refuses_1 l dC dI cA g0 r1 r2 r3 r4 r5 ce w we wr nm n T cd off told wia  ) hx hb hml hown hts gX1_point_X1_refuses rfl ⟨rfl, rfl⟩ (by decide +kernel) rfl ⟨Nat.le_of_ble_eq_true rfl, Nat.le_of_ble_eq_true rfl⟩ hK hP hD hS hA [0] [0, 1, 2, 3, 4, 5] [] rfl rfl rfl (by decide) (by decide) (q0 := 0) rfl rfl rfl (by decide) hl.1 rfl (Nat.le_of_ble_eq_true rfl) dX1_point_34 ⟨Nat.zero_le _, Nat.zero_le _⟩ (fun H locs hP hD hS => ?_)
    have hP : va_P (dC, dI) vwCl (wX1 cA g0 r1 r2 r3 r4 r5 ce w we wr nm n T (nI 1) off told wia) H := hP
    have hD : va_D A (wX1 cA g0 r1 r2 r3 r4 r5 ce w we wr nm n T (nI 1) off told wia) := hD
    refine kv_if_eq (tgt := 42) hx hb (by omega) dX1_point_37 (by decide) (fun h9 => absurd h9 (by omega)) (fun _ => ?_)
    refine lv_iconst (v := (nI 0)) hx hb dX1_point_40 (by decide) ?_
    exact kMi_ret hx hb hr hlocks hP hK hD hS dX1_point_41 rfl rfl
set_option maxHeartbeats 4000000 in
set_option maxRecDepth 100000 in
/-- NestCellsModel.point_b  -/
theorem c_X1_point_b (l : Launch) (dC : Nat → ClassId) (dI : Nat → Nat → Nat) (cA : ClassId) (g0 r1 r2 r3 r4 r5 : Nat) (ce w we wr nm : Nat → Int32) (n T : Nat) (cd off told wia : Int32) (name : Nat) (hnm : name < 10) (hx9 : ¬ off = 0 ∨ T = 0) (hT8 : T ≤ 8) : kMi l yX1_point wsX1_point ({ frames := 2, cells := 0, slots := 0, locals := 41 }) dC dI [(cA, .int)] (wX1 cA g0 r1 r2 r3 r4 r5 ce w we wr nm n T cd off told wia) [.ref g0, .int (nI name)] (nI 0) (wX1 cA g0 r1 r2 r3 r4 r5 ce w we wr nm n T (nI 2) off told wia) := by
  refine kMi_of (cc := cX1_point) (maxL := 3) (ret := (some .int)) (by decide) rfl (Nat.le_of_ble_eq_true rfl) ?_
  intro p e s m below meth c A ls hx hb hml hr hts hown hlocks hA hP hK hD hS hl
  have hin : ∀ w ∈ u_ws RX1 TX1 11, w ∈ wsX1_point := by decide +kernel
  have hl : lv_has ls 3 [(0, .ref g0), (1, .int (nI name))] := hl
  refine lv_aload_n hx hb dX1_point_0 rfl (lv_at hl 0 rfl) ?_
  refine lv_iload_n hx hb dX1_point_1 rfl (lv_at hl 1 rfl) ?_
  refine kv_if_lt (tgt := 11) hx hb (by omega) dX1_point_2 (by decide) ?_
  refine lv_iload_n hx hb dX1_point_5 rfl (lv_at hl 1 rfl) ?_
  refine lv_bipush (v := (nI 9)) hx hb dX1_point_6 (by decide) ?_
  refine kv_le (tgt := 15) hx hb (by omega) (by omega) dX1_point_8 (by decide) (fun h8_0 => ?_) (fun h8_0 => absurd h8_0 (by omega))
  refine lv_aload_n hx hb dX1_point_15 rfl (lv_at hl 0 rfl) ?_
  refine va_get (D := (dC, dI)) (ci := 1) (v := .int off) (C := RX1) (T := TX1) (N := 11) hx hb hts hin hown hK hP 0 rfl rfl 8 (by decide) (hts (.fieldLink RX1 39 "NestCellsModel" "off" "Z") (by decide +kernel)) (fun _ h9 => h9) rfl dX1_point_16 ?_
  refine lv_if_ne (tgt := 29) hx hb dX1_point_19 (by decide) (fun h19_0 => ?_) (fun h19_0 => ?_)
  · skip
    refine lv_iconst (v := (nI 2)) hx hb dX1_point_29 (by decide) ?_
    refine lv_goto (tgt := 34) hx hb dX1_point_30 (by decide) ?_
    refine kv_Vi (Xr := []) (n := 1) (c_X1_refuses_2 l dC dI cA g0 r1 r2 r3 r4 r5 ce w we wr nm n T cd off told wia  ) hx hb hml hown hts gX1_point_X1_refuses rfl ⟨rfl, rfl⟩ (by decide +kernel) rfl ⟨Nat.le_of_ble_eq_true rfl, Nat.le_of_ble_eq_true rfl⟩ hK hP hD hS hA [0] [0, 1, 2, 3, 4, 5] [] rfl rfl rfl (by decide) (by decide) (q0 := 0) rfl rfl rfl (by decide) hl.1 rfl (Nat.le_of_ble_eq_true rfl) dX1_point_34 ⟨Nat.zero_le _, Nat.zero_le _⟩ (fun H locs hP hD hS => ?_)
    have hP : va_P (dC, dI) vwCl (wX1 cA g0 r1 r2 r3 r4 r5 ce w we wr nm n T (nI 2) off told wia) H := hP
    have hD : va_D A (wX1 cA g0 r1 r2 r3 r4 r5 ce w we wr nm n T (nI 2) off told wia) := hD
    refine kv_if_eq (tgt := 42) hx hb (by omega) dX1_point_37 (by decide) (fun h9 => absurd h9 (by omega)) (fun _ => ?_)
    refine lv_iconst (v := (nI 0)) hx hb dX1_point_40 (by decide) ?_
    exact kMi_ret hx hb hr hlocks hP hK hD hS dX1_point_41 rfl rfl
  · skip
    refine lv_aload_n hx hb dX1_point_22 rfl (lv_at hl 0 rfl) ?_
    refine va_get (D := (dC, dI)) (ci := 1) (v := .int (nI T)) (C := RX1) (T := TX1) (N := 11) hx hb hts hin hown hK hP 0 rfl rfl 7 (by decide) (hts (.fieldLink RX1 36 "NestCellsModel" "transactions" "I") (by decide +kernel)) (fun _ h9 => h9) rfl dX1_point_23 ?_
    refine kv_if_ne (tgt := 33) hx hb (by omega) dX1_point_26 (by decide) (fun h26_1 => absurd h26_1 (by have r9 := hx9.resolve_left (fun r => r h19_0); omega)) (fun h26_1 => ?_)
    refine lv_iconst (v := (nI 2)) hx hb dX1_point_29 (by decide) ?_
    refine lv_goto (tgt := 34) hx hb dX1_point_30 (by decide) ?_
    refine kv_Vi (Xr := []) (n := 1) (c_X1_refuses_2 l dC dI cA g0 r1 r2 r3 r4 r5 ce w we wr nm n T cd off told wia  ) hx hb hml hown hts gX1_point_X1_refuses rfl ⟨rfl, rfl⟩ (by decide +kernel) rfl ⟨Nat.le_of_ble_eq_true rfl, Nat.le_of_ble_eq_true rfl⟩ hK hP hD hS hA [0] [0, 1, 2, 3, 4, 5] [] rfl rfl rfl (by decide) (by decide) (q0 := 0) rfl rfl rfl (by decide) hl.1 rfl (Nat.le_of_ble_eq_true rfl) dX1_point_34 ⟨Nat.zero_le _, Nat.zero_le _⟩ (fun H locs hP hD hS => ?_)
    have hP : va_P (dC, dI) vwCl (wX1 cA g0 r1 r2 r3 r4 r5 ce w we wr nm n T (nI 2) off told wia) H := hP
    have hD : va_D A (wX1 cA g0 r1 r2 r3 r4 r5 ce w we wr nm n T (nI 2) off told wia) := hD
    refine kv_if_eq (tgt := 42) hx hb (by omega) dX1_point_37 (by decide) (fun h9 => absurd h9 (by omega)) (fun _ => ?_)
    refine lv_iconst (v := (nI 0)) hx hb dX1_point_40 (by decide) ?_
    exact kMi_ret hx hb hr hlocks hP hK hD hS dX1_point_41 rfl rfl
set_option maxHeartbeats 4000000 in
set_option maxRecDepth 100000 in
/-- NestCellsModel.point_f  -/
theorem c_X1_point_f (l : Launch) (dC : Nat → ClassId) (dI : Nat → Nat → Nat) (cA : ClassId) (g0 r1 r2 r3 r4 r5 : Nat) (ce w we wr nm : Nat → Int32) (n T : Nat) (cd off told wia : Int32) (name : Nat) (hnm : name < 10) (ho : off = 0) (hT : 0 < T) (hT8 : T ≤ 8) (hn : n ≤ 88) (hj : 1 ≤ kx_inn nm n) (hpl : 2 ≤ kx_pl nm (nI name) (kx_inn nm n) n) (hj9 : 1 ≤ kx_inn (upd (kx_sh nm (kx_pl nm (nI name) (kx_inn nm n) n - 1) n) (n - 1) (nI name)) (n - 1 + 1)) : kMi l yX1_point wsX1_point ({ frames := 2, cells := 0, slots := 0, locals := 41 }) dC dI [(cA, .int)] (wX1 cA g0 r1 r2 r3 r4 r5 ce w we wr nm n T cd off told wia) [.ref g0, .int (nI name)] (nI (n - 1 + 1 - kx_inn (upd (kx_sh nm (kx_pl nm (nI name) (kx_inn nm n) n - 1) n) (n - 1) (nI name)) (n - 1 + 1))) (wX1 cA g0 r1 r2 r3 r4 r5 ce w (rx_op (rx_sw we (kx_pl nm (nI name) (kx_inn nm n) n - 1) (32 * (n - 1))) ce (n - 1) 32) (upd (kx_sh (upd wr ((kx_pl nm (nI name) (kx_inn nm n) n - 1) - 1) (wr ((kx_pl nm (nI name) (kx_inn nm n) n - 1) - 1) ||| wr (kx_pl nm (nI name) (kx_inn nm n) n - 1))) (kx_pl nm (nI name) (kx_inn nm n) n - 1) n) (n - 1) (nI 0)) (upd (kx_sh nm (kx_pl nm (nI name) (kx_inn nm n) n - 1) n) (n - 1) (nI name)) (n - 1 + 1) T (nI 0) off told wia) := by
  refine kMi_of (cc := cX1_point) (maxL := 3) (ret := (some .int)) (by decide) rfl (Nat.le_of_ble_eq_true rfl) ?_
  intro p e s m below meth c A ls hx hb hml hr hts hown hlocks hA hP hK hD hS hl
  have hin : ∀ w ∈ u_ws RX1 TX1 11, w ∈ wsX1_point := by decide +kernel
  have hl : lv_has ls 3 [(0, .ref g0), (1, .int (nI name))] := hl
  have hjn := kx_inn_le nm n
  have hple := kx_pl_le nm (nI name) (kx_inn nm n) n
  refine lv_aload_n hx hb dX1_point_0 rfl (lv_at hl 0 rfl) ?_
  refine lv_iload_n hx hb dX1_point_1 rfl (lv_at hl 1 rfl) ?_
  refine kv_if_lt (tgt := 11) hx hb (by omega) dX1_point_2 (by decide) ?_
  refine lv_iload_n hx hb dX1_point_5 rfl (lv_at hl 1 rfl) ?_
  refine lv_bipush (v := (nI 9)) hx hb dX1_point_6 (by decide) ?_
  refine kv_le (tgt := 15) hx hb (by omega) (by omega) dX1_point_8 (by decide) (fun h8_0 => ?_) (fun h8_0 => absurd h8_0 (by omega))
  refine lv_aload_n hx hb dX1_point_15 rfl (lv_at hl 0 rfl) ?_
  refine va_get (D := (dC, dI)) (ci := 1) (v := .int off) (C := RX1) (T := TX1) (N := 11) hx hb hts hin hown hK hP 0 rfl rfl 8 (by decide) (hts (.fieldLink RX1 39 "NestCellsModel" "off" "Z") (by decide +kernel)) (fun _ h9 => h9) rfl dX1_point_16 ?_
  refine lv_if_ne (tgt := 29) hx hb dX1_point_19 (by decide) (fun h19_0 => absurd h19_0 (fun q => q ho)) (fun h19_0 => ?_)
  refine lv_aload_n hx hb dX1_point_22 rfl (lv_at hl 0 rfl) ?_
  refine va_get (D := (dC, dI)) (ci := 1) (v := .int (nI T)) (C := RX1) (T := TX1) (N := 11) hx hb hts hin hown hK hP 0 rfl rfl 7 (by decide) (hts (.fieldLink RX1 36 "NestCellsModel" "transactions" "I") (by decide +kernel)) (fun _ h9 => h9) rfl dX1_point_23 ?_
  refine kv_if_ne (tgt := 33) hx hb (by omega) dX1_point_26 (by decide) (fun h26_0 => ?_) (fun h26_0 => absurd h26_0 (by omega))
  refine lv_iconst (v := (nI 0)) hx hb dX1_point_33 (by decide) ?_
  refine kv_Vi (Xr := []) (n := 1) (c_X1_refuses_0 l dC dI cA g0 r1 r2 r3 r4 r5 ce w we wr nm n T cd off told wia  ) hx hb hml hown hts gX1_point_X1_refuses rfl ⟨rfl, rfl⟩ (by decide +kernel) rfl ⟨Nat.le_of_ble_eq_true rfl, Nat.le_of_ble_eq_true rfl⟩ hK hP hD hS hA [0] [0, 1, 2, 3, 4, 5] [] rfl rfl rfl (by decide) (by decide) (q0 := 0) rfl rfl rfl (by decide) hl.1 rfl (Nat.le_of_ble_eq_true rfl) dX1_point_34 ⟨Nat.zero_le _, Nat.zero_le _⟩ (fun H locs hP hD hS => ?_)
  have hP : va_P (dC, dI) vwCl (wX1 cA g0 r1 r2 r3 r4 r5 ce w we wr nm n T (nI 0) off told wia) H := hP
  have hD : va_D A (wX1 cA g0 r1 r2 r3 r4 r5 ce w we wr nm n T (nI 0) off told wia) := hD
  refine kv_if_eq (tgt := 42) hx hb (by omega) dX1_point_37 (by decide) (fun _ => ?_) (fun h9 => absurd h9 (by omega))
  refine lv_aload_n hx hb dX1_point_42 rfl (lv_at hl 0 rfl) ?_
  refine lv_iload_n hx hb dX1_point_43 rfl (lv_at hl 1 rfl) ?_
  refine kv_Vi (Xr := []) (n := 1) (c_X1_find l dC dI cA g0 r1 r2 r3 r4 r5 ce w we wr nm n T (nI 0) off told wia (nI name) (by omega) hj (kv_nm1 (by omega))) hx hb hml hown hts gX1_point_X1_find rfl ⟨rfl, rfl⟩ (by decide +kernel) rfl ⟨Nat.le_of_ble_eq_true rfl, Nat.le_of_ble_eq_true rfl⟩ hK hP hD hS hA [0] [0, 1, 2, 3, 4, 5] [] rfl rfl rfl (by decide) (by decide) (q0 := 0) rfl rfl rfl (by decide) hl.1 rfl (Nat.le_of_ble_eq_true rfl) dX1_point_44 ⟨Nat.zero_le _, Nat.zero_le _⟩ (fun H locs hP hD hS => ?_)
  have hP : va_P (dC, dI) vwCl (wX1 cA g0 r1 r2 r3 r4 r5 ce w we wr nm n T (nI 0) off told wia) H := hP
  have hD : va_D A (wX1 cA g0 r1 r2 r3 r4 r5 ce w we wr nm n T (nI 0) off told wia) := hD
  refine kv_top (w := .int (nI (kx_pl nm (nI name) (kx_inn nm n) n - 1))) (by rw [← pk_sub (by omega)]) ?_
  refine lv_istore_n (lv' := [(2, .int (nI (kx_pl nm (nI name) (kx_inn nm n) n - 1))), (0, .ref g0), (1, .int (nI name))]) hx hb dX1_point_47 rfl hl (by decide) rfl (fun ls hl => ?_)
  refine lv_iload_n hx hb dX1_point_48 rfl (lv_at hl 0 rfl) ?_
  refine kv_if_lt (tgt := 57) hx hb (by omega) dX1_point_49 (by decide) ?_
  refine lv_aload_n hx hb dX1_point_52 rfl (lv_at hl 1 rfl) ?_
  refine lv_iload_n hx hb dX1_point_53 rfl (lv_at hl 0 rfl) ?_
  refine kv_Vv (Xr := []) (n := 1) (c_X1_melts l dC dI cA g0 r1 r2 r3 r4 r5 ce w we wr nm n T (nI 0) off told wia (kx_pl nm (nI name) (kx_inn nm n) n - 1) (by omega) (by omega) (by omega)) hx hb hml hown hts gX1_point_X1_melts rfl ⟨rfl, rfl⟩ (by decide +kernel) rfl ⟨Nat.le_of_ble_eq_true rfl, Nat.le_of_ble_eq_true rfl⟩ hK hP hD hS hA [0] [0, 1, 2, 3, 4, 5] [] rfl rfl rfl (by decide) (by decide) (q0 := 0) rfl rfl rfl (by decide) hl.1 rfl (Nat.le_of_ble_eq_true rfl) dX1_point_54 ⟨Nat.zero_le _, Nat.zero_le _⟩ (fun H locs hP hD hS => ?_)
  have hP : va_P (dC, dI) vwCl (wX1 cA g0 r1 r2 r3 r4 r5 ce w (rx_sw we (kx_pl nm (nI name) (kx_inn nm n) n - 1) (32 * (n - 1))) (kx_sh (upd wr ((kx_pl nm (nI name) (kx_inn nm n) n - 1) - 1) (wr ((kx_pl nm (nI name) (kx_inn nm n) n - 1) - 1) ||| wr (kx_pl nm (nI name) (kx_inn nm n) n - 1))) (kx_pl nm (nI name) (kx_inn nm n) n - 1) n) (kx_sh nm (kx_pl nm (nI name) (kx_inn nm n) n - 1) n) (n - 1) T (nI 0) off told wia) H := hP
  have hD : va_D A (wX1 cA g0 r1 r2 r3 r4 r5 ce w (rx_sw we (kx_pl nm (nI name) (kx_inn nm n) n - 1) (32 * (n - 1))) (kx_sh (upd wr ((kx_pl nm (nI name) (kx_inn nm n) n - 1) - 1) (wr ((kx_pl nm (nI name) (kx_inn nm n) n - 1) - 1) ||| wr (kx_pl nm (nI name) (kx_inn nm n) n - 1))) (kx_pl nm (nI name) (kx_inn nm n) n - 1) n) (kx_sh nm (kx_pl nm (nI name) (kx_inn nm n) n - 1) n) (n - 1) T (nI 0) off told wia) := hD
  refine lv_aload_n hx hb dX1_point_57 rfl (lv_at hl 1 rfl) ?_
  refine lv_iload_n hx hb dX1_point_58 rfl (lv_at hl 2 rfl) ?_
  refine kv_Vv (Xr := []) (n := 1) (c_X1_opens l dC dI cA g0 r1 r2 r3 r4 r5 ce w (rx_sw we (kx_pl nm (nI name) (kx_inn nm n) n - 1) (32 * (n - 1))) (kx_sh (upd wr ((kx_pl nm (nI name) (kx_inn nm n) n - 1) - 1) (wr ((kx_pl nm (nI name) (kx_inn nm n) n - 1) - 1) ||| wr (kx_pl nm (nI name) (kx_inn nm n) n - 1))) (kx_pl nm (nI name) (kx_inn nm n) n - 1) n) (kx_sh nm (kx_pl nm (nI name) (kx_inn nm n) n - 1) n) (n - 1) T (nI 0) off told wia (nI name) (by omega)) hx hb hml hown hts gX1_point_X1_opens rfl ⟨rfl, rfl⟩ (by decide +kernel) rfl ⟨Nat.le_of_ble_eq_true rfl, Nat.le_of_ble_eq_true rfl⟩ hK hP hD hS hA [0] [0, 1, 2, 3, 4, 5] [] rfl rfl rfl (by decide) (by decide) (q0 := 0) rfl rfl rfl (by decide) hl.1 rfl (Nat.le_of_ble_eq_true rfl) dX1_point_59 ⟨Nat.zero_le _, Nat.zero_le _⟩ (fun H locs hP hD hS => ?_)
  have hP : va_P (dC, dI) vwCl (wX1 cA g0 r1 r2 r3 r4 r5 ce w (rx_op (rx_sw we (kx_pl nm (nI name) (kx_inn nm n) n - 1) (32 * (n - 1))) ce (n - 1) 32) (upd (kx_sh (upd wr ((kx_pl nm (nI name) (kx_inn nm n) n - 1) - 1) (wr ((kx_pl nm (nI name) (kx_inn nm n) n - 1) - 1) ||| wr (kx_pl nm (nI name) (kx_inn nm n) n - 1))) (kx_pl nm (nI name) (kx_inn nm n) n - 1) n) (n - 1) (nI 0)) (upd (kx_sh nm (kx_pl nm (nI name) (kx_inn nm n) n - 1) n) (n - 1) (nI name)) ((n - 1) + 1) T (nI 0) off told wia) H := hP
  have hD : va_D A (wX1 cA g0 r1 r2 r3 r4 r5 ce w (rx_op (rx_sw we (kx_pl nm (nI name) (kx_inn nm n) n - 1) (32 * (n - 1))) ce (n - 1) 32) (upd (kx_sh (upd wr ((kx_pl nm (nI name) (kx_inn nm n) n - 1) - 1) (wr ((kx_pl nm (nI name) (kx_inn nm n) n - 1) - 1) ||| wr (kx_pl nm (nI name) (kx_inn nm n) n - 1))) (kx_pl nm (nI name) (kx_inn nm n) n - 1) n) (n - 1) (nI 0)) (upd (kx_sh nm (kx_pl nm (nI name) (kx_inn nm n) n - 1) n) (n - 1) (nI name)) ((n - 1) + 1) T (nI 0) off told wia) := hD
  refine lv_aload_n hx hb dX1_point_62 rfl (lv_at hl 1 rfl) ?_
  refine kv_Vi (Xr := []) (n := 0) (c_X1_points_p l dC dI cA g0 r1 r2 r3 r4 r5 ce w (rx_op (rx_sw we (kx_pl nm (nI name) (kx_inn nm n) n - 1) (32 * (n - 1))) ce (n - 1) 32) (upd (kx_sh (upd wr ((kx_pl nm (nI name) (kx_inn nm n) n - 1) - 1) (wr ((kx_pl nm (nI name) (kx_inn nm n) n - 1) - 1) ||| wr (kx_pl nm (nI name) (kx_inn nm n) n - 1))) (kx_pl nm (nI name) (kx_inn nm n) n - 1) n) (n - 1) (nI 0)) (upd (kx_sh nm (kx_pl nm (nI name) (kx_inn nm n) n - 1) n) (n - 1) (nI name)) ((n - 1) + 1) T (nI 0) off told wia  hT hT8 (by omega) hj9) hx hb hml hown hts gX1_point_X1_points rfl ⟨rfl, rfl⟩ (by decide +kernel) rfl ⟨Nat.le_of_ble_eq_true rfl, Nat.le_of_ble_eq_true rfl⟩ hK hP hD hS hA [0] [0, 1, 2, 3, 4, 5] [] rfl rfl rfl (by decide) (by decide) (q0 := 0) rfl rfl rfl (by decide) hl.1 rfl (Nat.le_of_ble_eq_true rfl) dX1_point_63 ⟨Nat.zero_le _, Nat.zero_le _⟩ (fun H locs hP hD hS => ?_)
  have hP : va_P (dC, dI) vwCl (wX1 cA g0 r1 r2 r3 r4 r5 ce w (rx_op (rx_sw we (kx_pl nm (nI name) (kx_inn nm n) n - 1) (32 * (n - 1))) ce (n - 1) 32) (upd (kx_sh (upd wr ((kx_pl nm (nI name) (kx_inn nm n) n - 1) - 1) (wr ((kx_pl nm (nI name) (kx_inn nm n) n - 1) - 1) ||| wr (kx_pl nm (nI name) (kx_inn nm n) n - 1))) (kx_pl nm (nI name) (kx_inn nm n) n - 1) n) (n - 1) (nI 0)) (upd (kx_sh nm (kx_pl nm (nI name) (kx_inn nm n) n - 1) n) (n - 1) (nI name)) ((n - 1) + 1) T (nI 0) off told wia) H := hP
  have hD : va_D A (wX1 cA g0 r1 r2 r3 r4 r5 ce w (rx_op (rx_sw we (kx_pl nm (nI name) (kx_inn nm n) n - 1) (32 * (n - 1))) ce (n - 1) 32) (upd (kx_sh (upd wr ((kx_pl nm (nI name) (kx_inn nm n) n - 1) - 1) (wr ((kx_pl nm (nI name) (kx_inn nm n) n - 1) - 1) ||| wr (kx_pl nm (nI name) (kx_inn nm n) n - 1))) (kx_pl nm (nI name) (kx_inn nm n) n - 1) n) (n - 1) (nI 0)) (upd (kx_sh nm (kx_pl nm (nI name) (kx_inn nm n) n - 1) n) (n - 1) (nI name)) ((n - 1) + 1) T (nI 0) off told wia) := hD
  exact kMi_ret hx hb hr hlocks hP hK hD hS dX1_point_66 rfl rfl
set_option maxHeartbeats 4000000 in
set_option maxRecDepth 100000 in
/-- NestCellsModel.point_n  -/
theorem c_X1_point_n (l : Launch) (dC : Nat → ClassId) (dI : Nat → Nat → Nat) (cA : ClassId) (g0 r1 r2 r3 r4 r5 : Nat) (ce w we wr nm : Nat → Int32) (n T : Nat) (cd off told wia : Int32) (name : Nat) (hnm : name < 10) (ho : off = 0) (hT : 0 < T) (hT8 : T ≤ 8) (hn : n < 88) (hj : 1 ≤ kx_inn nm n) (hpl : kx_pl nm (nI name) (kx_inn nm n) n = 0) (hj9 : 1 ≤ kx_inn (upd nm n (nI name)) (n + 1)) : kMi l yX1_point wsX1_point ({ frames := 2, cells := 0, slots := 0, locals := 41 }) dC dI [(cA, .int)] (wX1 cA g0 r1 r2 r3 r4 r5 ce w we wr nm n T cd off told wia) [.ref g0, .int (nI name)] (nI (n + 1 - kx_inn (upd nm n (nI name)) (n + 1))) (wX1 cA g0 r1 r2 r3 r4 r5 ce w (rx_op we ce n 32) (upd wr n (nI 0)) (upd nm n (nI name)) (n + 1) T (nI 0) off told wia) := by
  refine kMi_of (cc := cX1_point) (maxL := 3) (ret := (some .int)) (by decide) rfl (Nat.le_of_ble_eq_true rfl) ?_
  intro p e s m below meth c A ls hx hb hml hr hts hown hlocks hA hP hK hD hS hl
  have hin : ∀ w ∈ u_ws RX1 TX1 11, w ∈ wsX1_point := by decide +kernel
  have hl : lv_has ls 3 [(0, .ref g0), (1, .int (nI name))] := hl
  have hjn := kx_inn_le nm n
  have hple := kx_pl_le nm (nI name) (kx_inn nm n) n
  refine lv_aload_n hx hb dX1_point_0 rfl (lv_at hl 0 rfl) ?_
  refine lv_iload_n hx hb dX1_point_1 rfl (lv_at hl 1 rfl) ?_
  refine kv_if_lt (tgt := 11) hx hb (by omega) dX1_point_2 (by decide) ?_
  refine lv_iload_n hx hb dX1_point_5 rfl (lv_at hl 1 rfl) ?_
  refine lv_bipush (v := (nI 9)) hx hb dX1_point_6 (by decide) ?_
  refine kv_le (tgt := 15) hx hb (by omega) (by omega) dX1_point_8 (by decide) (fun h8_0 => ?_) (fun h8_0 => absurd h8_0 (by omega))
  refine lv_aload_n hx hb dX1_point_15 rfl (lv_at hl 0 rfl) ?_
  refine va_get (D := (dC, dI)) (ci := 1) (v := .int off) (C := RX1) (T := TX1) (N := 11) hx hb hts hin hown hK hP 0 rfl rfl 8 (by decide) (hts (.fieldLink RX1 39 "NestCellsModel" "off" "Z") (by decide +kernel)) (fun _ h9 => h9) rfl dX1_point_16 ?_
  refine lv_if_ne (tgt := 29) hx hb dX1_point_19 (by decide) (fun h19_0 => absurd h19_0 (fun q => q ho)) (fun h19_0 => ?_)
  refine lv_aload_n hx hb dX1_point_22 rfl (lv_at hl 0 rfl) ?_
  refine va_get (D := (dC, dI)) (ci := 1) (v := .int (nI T)) (C := RX1) (T := TX1) (N := 11) hx hb hts hin hown hK hP 0 rfl rfl 7 (by decide) (hts (.fieldLink RX1 36 "NestCellsModel" "transactions" "I") (by decide +kernel)) (fun _ h9 => h9) rfl dX1_point_23 ?_
  refine kv_if_ne (tgt := 33) hx hb (by omega) dX1_point_26 (by decide) (fun h26_0 => ?_) (fun h26_0 => absurd h26_0 (by omega))
  refine lv_iconst (v := (nI 0)) hx hb dX1_point_33 (by decide) ?_
  refine kv_Vi (Xr := []) (n := 1) (c_X1_refuses_0 l dC dI cA g0 r1 r2 r3 r4 r5 ce w we wr nm n T cd off told wia  ) hx hb hml hown hts gX1_point_X1_refuses rfl ⟨rfl, rfl⟩ (by decide +kernel) rfl ⟨Nat.le_of_ble_eq_true rfl, Nat.le_of_ble_eq_true rfl⟩ hK hP hD hS hA [0] [0, 1, 2, 3, 4, 5] [] rfl rfl rfl (by decide) (by decide) (q0 := 0) rfl rfl rfl (by decide) hl.1 rfl (Nat.le_of_ble_eq_true rfl) dX1_point_34 ⟨Nat.zero_le _, Nat.zero_le _⟩ (fun H locs hP hD hS => ?_)
  have hP : va_P (dC, dI) vwCl (wX1 cA g0 r1 r2 r3 r4 r5 ce w we wr nm n T (nI 0) off told wia) H := hP
  have hD : va_D A (wX1 cA g0 r1 r2 r3 r4 r5 ce w we wr nm n T (nI 0) off told wia) := hD
  refine kv_if_eq (tgt := 42) hx hb (by omega) dX1_point_37 (by decide) (fun _ => ?_) (fun h9 => absurd h9 (by omega))
  refine lv_aload_n hx hb dX1_point_42 rfl (lv_at hl 0 rfl) ?_
  refine lv_iload_n hx hb dX1_point_43 rfl (lv_at hl 1 rfl) ?_
  refine kv_Vi (Xr := []) (n := 1) (c_X1_find l dC dI cA g0 r1 r2 r3 r4 r5 ce w we wr nm n T (nI 0) off told wia (nI name) (by omega) hj (kv_nm1 (by omega))) hx hb hml hown hts gX1_point_X1_find rfl ⟨rfl, rfl⟩ (by decide +kernel) rfl ⟨Nat.le_of_ble_eq_true rfl, Nat.le_of_ble_eq_true rfl⟩ hK hP hD hS hA [0] [0, 1, 2, 3, 4, 5] [] rfl rfl rfl (by decide) (by decide) (q0 := 0) rfl rfl rfl (by decide) hl.1 rfl (Nat.le_of_ble_eq_true rfl) dX1_point_44 ⟨Nat.zero_le _, Nat.zero_le _⟩ (fun H locs hP hD hS => ?_)
  have hP : va_P (dC, dI) vwCl (wX1 cA g0 r1 r2 r3 r4 r5 ce w we wr nm n T (nI 0) off told wia) H := hP
  have hD : va_D A (wX1 cA g0 r1 r2 r3 r4 r5 ce w we wr nm n T (nI 0) off told wia) := hD
  refine kv_top (w := .int (-1)) (by rw [hpl]; exact congrArg Value.int kv_m1) ?_
  refine lv_istore_n (lv' := [(2, .int (-1)), (0, .ref g0), (1, .int (nI name))]) hx hb dX1_point_47 rfl hl (by decide) rfl (fun ls hl => ?_)
  refine lv_iload_n hx hb dX1_point_48 rfl (lv_at hl 0 rfl) ?_
  refine lv_if_lt (tgt := 57) hx hb dX1_point_49 (by decide) (fun h49_0 => ?_) (fun h49_0 => absurd h49_0 (fun q => q (by decide)))
  refine lv_aload_n hx hb dX1_point_57 rfl (lv_at hl 1 rfl) ?_
  refine lv_iload_n hx hb dX1_point_58 rfl (lv_at hl 2 rfl) ?_
  refine kv_Vv (Xr := []) (n := 1) (c_X1_opens l dC dI cA g0 r1 r2 r3 r4 r5 ce w we wr nm n T (nI 0) off told wia (nI name) (by omega)) hx hb hml hown hts gX1_point_X1_opens rfl ⟨rfl, rfl⟩ (by decide +kernel) rfl ⟨Nat.le_of_ble_eq_true rfl, Nat.le_of_ble_eq_true rfl⟩ hK hP hD hS hA [0] [0, 1, 2, 3, 4, 5] [] rfl rfl rfl (by decide) (by decide) (q0 := 0) rfl rfl rfl (by decide) hl.1 rfl (Nat.le_of_ble_eq_true rfl) dX1_point_59 ⟨Nat.zero_le _, Nat.zero_le _⟩ (fun H locs hP hD hS => ?_)
  have hP : va_P (dC, dI) vwCl (wX1 cA g0 r1 r2 r3 r4 r5 ce w (rx_op we ce n 32) (upd wr n (nI 0)) (upd nm n (nI name)) (n + 1) T (nI 0) off told wia) H := hP
  have hD : va_D A (wX1 cA g0 r1 r2 r3 r4 r5 ce w (rx_op we ce n 32) (upd wr n (nI 0)) (upd nm n (nI name)) (n + 1) T (nI 0) off told wia) := hD
  refine lv_aload_n hx hb dX1_point_62 rfl (lv_at hl 1 rfl) ?_
  refine kv_Vi (Xr := []) (n := 0) (c_X1_points_p l dC dI cA g0 r1 r2 r3 r4 r5 ce w (rx_op we ce n 32) (upd wr n (nI 0)) (upd nm n (nI name)) (n + 1) T (nI 0) off told wia  hT hT8 (by omega) hj9) hx hb hml hown hts gX1_point_X1_points rfl ⟨rfl, rfl⟩ (by decide +kernel) rfl ⟨Nat.le_of_ble_eq_true rfl, Nat.le_of_ble_eq_true rfl⟩ hK hP hD hS hA [0] [0, 1, 2, 3, 4, 5] [] rfl rfl rfl (by decide) (by decide) (q0 := 0) rfl rfl rfl (by decide) hl.1 rfl (Nat.le_of_ble_eq_true rfl) dX1_point_63 ⟨Nat.zero_le _, Nat.zero_le _⟩ (fun H locs hP hD hS => ?_)
  have hP : va_P (dC, dI) vwCl (wX1 cA g0 r1 r2 r3 r4 r5 ce w (rx_op we ce n 32) (upd wr n (nI 0)) (upd nm n (nI name)) (n + 1) T (nI 0) off told wia) H := hP
  have hD : va_D A (wX1 cA g0 r1 r2 r3 r4 r5 ce w (rx_op we ce n 32) (upd wr n (nI 0)) (upd nm n (nI name)) (n + 1) T (nI 0) off told wia) := hD
  exact kMi_ret hx hb hr hlocks hP hK hD hS dX1_point_66 rfl rfl
set_option maxHeartbeats 4000000 in
set_option maxRecDepth 100000 in
/-- NestCellsModel.wrong_a  -/
theorem c_X1_wrong_a (l : Launch) (dC : Nat → ClassId) (dI : Nat → Nat → Nat) (cA : ClassId) (g0 r1 r2 r3 r4 r5 : Nat) (ce w we wr nm : Nat → Int32) (n T : Nat) (cd off told wia : Int32) (name : Int32) (hw : name < 0 ∨ ¬ name < nI 10) : kMi l yX1_wrong wsX1_wrong ({ frames := 1, cells := 0, slots := 0, locals := 22 }) dC dI [(cA, .int)] (wX1 cA g0 r1 r2 r3 r4 r5 ce w we wr nm n T cd off told wia) [.ref g0, .int name] (nI 1) (wX1 cA g0 r1 r2 r3 r4 r5 ce w we wr nm n T cd off told wia) := by
  refine kMi_of (cc := cX1_wrong) (maxL := 2) (ret := (some .int)) (by decide) rfl (Nat.le_of_ble_eq_true rfl) ?_
  intro p e s m below meth c A ls hx hb hml hr hts hown hlocks hA hP hK hD hS hl
  have hin : ∀ w ∈ u_ws RX1 TX1 11, w ∈ wsX1_wrong := by decide +kernel
  have hl : lv_has ls 2 [(0, .ref g0), (1, .int name)] := hl
  refine lv_iload_n hx hb dX1_wrong_0 rfl (lv_at hl 1 rfl) ?_
  refine lv_if_lt (tgt := 10) hx hb dX1_wrong_1 (by decide) (fun h1_0 => ?_) (fun h1_0 => ?_)
  · skip
    refine lv_iconst (v := (nI 1)) hx hb dX1_wrong_10 (by decide) ?_
    refine lv_goto (tgt := 45) hx hb dX1_wrong_11 (by decide) ?_
    exact kMi_ret hx hb hr hlocks hP hK hD hS dX1_wrong_45 rfl rfl
  · skip
    refine lv_iload_n hx hb dX1_wrong_4 rfl (lv_at hl 1 rfl) ?_
    refine lv_bipush (v := (nI 9)) hx hb dX1_wrong_5 (by decide) ?_
    refine lv_icmp_le (tgt := 14) hx hb dX1_wrong_7 (by decide) (fun h7_1 => (((hw.elim h1_0 (fun q => q (rx_le9 h7_1)))) : False).elim) (fun h7_1 => ?_)
    refine lv_iconst (v := (nI 1)) hx hb dX1_wrong_10 (by decide) ?_
    refine lv_goto (tgt := 45) hx hb dX1_wrong_11 (by decide) ?_
    exact kMi_ret hx hb hr hlocks hP hK hD hS dX1_wrong_45 rfl rfl
set_option maxHeartbeats 4000000 in
set_option maxRecDepth 100000 in
/-- NestCellsModel.wrong_b  -/
theorem c_X1_wrong_b (l : Launch) (dC : Nat → ClassId) (dI : Nat → Nat → Nat) (cA : ClassId) (g0 r1 r2 r3 r4 r5 : Nat) (ce w we wr nm : Nat → Int32) (n T : Nat) (cd off told wia : Int32) (name : Nat) (hnm : name < 10) (hx9 : ¬ off = 0 ∨ T = 0) (hT8 : T ≤ 8) : kMi l yX1_wrong wsX1_wrong ({ frames := 1, cells := 0, slots := 0, locals := 22 }) dC dI [(cA, .int)] (wX1 cA g0 r1 r2 r3 r4 r5 ce w we wr nm n T cd off told wia) [.ref g0, .int (nI name)] (nI 2) (wX1 cA g0 r1 r2 r3 r4 r5 ce w we wr nm n T cd off told wia) := by
  refine kMi_of (cc := cX1_wrong) (maxL := 2) (ret := (some .int)) (by decide) rfl (Nat.le_of_ble_eq_true rfl) ?_
  intro p e s m below meth c A ls hx hb hml hr hts hown hlocks hA hP hK hD hS hl
  have hin : ∀ w ∈ u_ws RX1 TX1 11, w ∈ wsX1_wrong := by decide +kernel
  have hl : lv_has ls 2 [(0, .ref g0), (1, .int (nI name))] := hl
  refine lv_iload_n hx hb dX1_wrong_0 rfl (lv_at hl 1 rfl) ?_
  refine kv_if_lt (tgt := 10) hx hb (by omega) dX1_wrong_1 (by decide) ?_
  refine lv_iload_n hx hb dX1_wrong_4 rfl (lv_at hl 1 rfl) ?_
  refine lv_bipush (v := (nI 9)) hx hb dX1_wrong_5 (by decide) ?_
  refine kv_le (tgt := 14) hx hb (by omega) (by omega) dX1_wrong_7 (by decide) (fun h7_0 => ?_) (fun h7_0 => absurd h7_0 (by omega))
  refine lv_aload_n hx hb dX1_wrong_14 rfl (lv_at hl 0 rfl) ?_
  refine va_get (D := (dC, dI)) (ci := 1) (v := .int off) (C := RX1) (T := TX1) (N := 11) hx hb hts hin hown hK hP 0 rfl rfl 8 (by decide) (hts (.fieldLink RX1 39 "NestCellsModel" "off" "Z") (by decide +kernel)) (fun _ h9 => h9) rfl dX1_wrong_15 ?_
  refine lv_if_ne (tgt := 28) hx hb dX1_wrong_18 (by decide) (fun h18_0 => ?_) (fun h18_0 => ?_)
  · skip
    refine lv_iconst (v := (nI 2)) hx hb dX1_wrong_28 (by decide) ?_
    refine lv_goto (tgt := 45) hx hb dX1_wrong_29 (by decide) ?_
    exact kMi_ret hx hb hr hlocks hP hK hD hS dX1_wrong_45 rfl rfl
  · skip
    refine lv_aload_n hx hb dX1_wrong_21 rfl (lv_at hl 0 rfl) ?_
    refine va_get (D := (dC, dI)) (ci := 1) (v := .int (nI T)) (C := RX1) (T := TX1) (N := 11) hx hb hts hin hown hK hP 0 rfl rfl 7 (by decide) (hts (.fieldLink RX1 36 "NestCellsModel" "transactions" "I") (by decide +kernel)) (fun _ h9 => h9) rfl dX1_wrong_22 ?_
    refine kv_if_ne (tgt := 32) hx hb (by omega) dX1_wrong_25 (by decide) (fun h25_1 => absurd h25_1 (by have r9 := hx9.resolve_left (fun r => r h18_0); omega)) (fun h25_1 => ?_)
    refine lv_iconst (v := (nI 2)) hx hb dX1_wrong_28 (by decide) ?_
    refine lv_goto (tgt := 45) hx hb dX1_wrong_29 (by decide) ?_
    exact kMi_ret hx hb hr hlocks hP hK hD hS dX1_wrong_45 rfl rfl
set_option maxHeartbeats 4000000 in
set_option maxRecDepth 100000 in
/-- NestCellsModel.wrong_c  -/
theorem c_X1_wrong_c (l : Launch) (dC : Nat → ClassId) (dI : Nat → Nat → Nat) (cA : ClassId) (g0 r1 r2 r3 r4 r5 : Nat) (ce w we wr nm : Nat → Int32) (n T : Nat) (cd off told wia : Int32) (name : Nat) (hnm : name < 10) (ho : off = 0) (hT : 0 < T) (hT8 : T ≤ 8) (hn : n ≤ 88) (hj : 1 ≤ kx_inn nm n) (hpl : kx_pl nm (nI name) (kx_inn nm n) n = 0) : kMi l yX1_wrong wsX1_wrong ({ frames := 1, cells := 0, slots := 0, locals := 22 }) dC dI [(cA, .int)] (wX1 cA g0 r1 r2 r3 r4 r5 ce w we wr nm n T cd off told wia) [.ref g0, .int (nI name)] (nI 1) (wX1 cA g0 r1 r2 r3 r4 r5 ce w we wr nm n T cd off told wia) := by
  refine kMi_of (cc := cX1_wrong) (maxL := 2) (ret := (some .int)) (by decide) rfl (Nat.le_of_ble_eq_true rfl) ?_
  intro p e s m below meth c A ls hx hb hml hr hts hown hlocks hA hP hK hD hS hl
  have hin : ∀ w ∈ u_ws RX1 TX1 11, w ∈ wsX1_wrong := by decide +kernel
  have hl : lv_has ls 2 [(0, .ref g0), (1, .int (nI name))] := hl
  have hjn := kx_inn_le nm n
  have hple := kx_pl_le nm (nI name) (kx_inn nm n) n
  refine lv_iload_n hx hb dX1_wrong_0 rfl (lv_at hl 1 rfl) ?_
  refine kv_if_lt (tgt := 10) hx hb (by omega) dX1_wrong_1 (by decide) ?_
  refine lv_iload_n hx hb dX1_wrong_4 rfl (lv_at hl 1 rfl) ?_
  refine lv_bipush (v := (nI 9)) hx hb dX1_wrong_5 (by decide) ?_
  refine kv_le (tgt := 14) hx hb (by omega) (by omega) dX1_wrong_7 (by decide) (fun h7_0 => ?_) (fun h7_0 => absurd h7_0 (by omega))
  refine lv_aload_n hx hb dX1_wrong_14 rfl (lv_at hl 0 rfl) ?_
  refine va_get (D := (dC, dI)) (ci := 1) (v := .int off) (C := RX1) (T := TX1) (N := 11) hx hb hts hin hown hK hP 0 rfl rfl 8 (by decide) (hts (.fieldLink RX1 39 "NestCellsModel" "off" "Z") (by decide +kernel)) (fun _ h9 => h9) rfl dX1_wrong_15 ?_
  refine lv_if_ne (tgt := 28) hx hb dX1_wrong_18 (by decide) (fun h18_0 => absurd h18_0 (fun q => q ho)) (fun h18_0 => ?_)
  refine lv_aload_n hx hb dX1_wrong_21 rfl (lv_at hl 0 rfl) ?_
  refine va_get (D := (dC, dI)) (ci := 1) (v := .int (nI T)) (C := RX1) (T := TX1) (N := 11) hx hb hts hin hown hK hP 0 rfl rfl 7 (by decide) (hts (.fieldLink RX1 36 "NestCellsModel" "transactions" "I") (by decide +kernel)) (fun _ h9 => h9) rfl dX1_wrong_22 ?_
  refine kv_if_ne (tgt := 32) hx hb (by omega) dX1_wrong_25 (by decide) (fun h25_0 => ?_) (fun h25_0 => absurd h25_0 (by omega))
  refine lv_aload_n hx hb dX1_wrong_32 rfl (lv_at hl 0 rfl) ?_
  refine lv_iload_n hx hb dX1_wrong_33 rfl (lv_at hl 1 rfl) ?_
  refine kv_Vi (Xr := []) (n := 1) (c_X1_find l dC dI cA g0 r1 r2 r3 r4 r5 ce w we wr nm n T cd off told wia (nI name) (by omega) hj (kv_nm1 (by omega))) hx hb hml hown hts gX1_wrong_X1_find rfl ⟨rfl, rfl⟩ (by decide +kernel) rfl ⟨Nat.le_of_ble_eq_true rfl, Nat.le_of_ble_eq_true rfl⟩ hK hP hD hS hA [0] [0, 1, 2, 3, 4, 5] [] rfl rfl rfl (by decide) (by decide) (q0 := 0) rfl rfl rfl (by decide) hl.1 rfl (Nat.le_of_ble_eq_true rfl) dX1_wrong_34 ⟨Nat.zero_le _, Nat.zero_le _⟩ (fun H locs hP hD hS => ?_)
  have hP : va_P (dC, dI) vwCl (wX1 cA g0 r1 r2 r3 r4 r5 ce w we wr nm n T cd off told wia) H := hP
  have hD : va_D A (wX1 cA g0 r1 r2 r3 r4 r5 ce w we wr nm n T cd off told wia) := hD
  refine kv_top (w := .int (-1)) (by rw [hpl]; exact congrArg Value.int kv_m1) ?_
  refine lv_if_ge (tgt := 44) hx hb dX1_wrong_37 (by decide) (fun h37_0 => absurd h37_0 (by decide)) (fun h37_0 => ?_)
  refine lv_iconst (v := (nI 1)) hx hb dX1_wrong_40 (by decide) ?_
  refine lv_goto (tgt := 45) hx hb dX1_wrong_41 (by decide) ?_
  exact kMi_ret hx hb hr hlocks hP hK hD hS dX1_wrong_45 rfl rfl
set_option maxHeartbeats 4000000 in
set_option maxRecDepth 100000 in
/-- NestCellsModel.wrong_o  -/
theorem c_X1_wrong_o (l : Launch) (dC : Nat → ClassId) (dI : Nat → Nat → Nat) (cA : ClassId) (g0 r1 r2 r3 r4 r5 : Nat) (ce w we wr nm : Nat → Int32) (n T : Nat) (cd off told wia : Int32) (name : Nat) (hnm : name < 10) (ho : off = 0) (hT : 0 < T) (hT8 : T ≤ 8) (hn : n ≤ 88) (hj : 1 ≤ kx_inn nm n) (hpl : 1 ≤ kx_pl nm (nI name) (kx_inn nm n) n) : kMi l yX1_wrong wsX1_wrong ({ frames := 1, cells := 0, slots := 0, locals := 22 }) dC dI [(cA, .int)] (wX1 cA g0 r1 r2 r3 r4 r5 ce w we wr nm n T cd off told wia) [.ref g0, .int (nI name)] (nI 0) (wX1 cA g0 r1 r2 r3 r4 r5 ce w we wr nm n T cd off told wia) := by
  refine kMi_of (cc := cX1_wrong) (maxL := 2) (ret := (some .int)) (by decide) rfl (Nat.le_of_ble_eq_true rfl) ?_
  intro p e s m below meth c A ls hx hb hml hr hts hown hlocks hA hP hK hD hS hl
  have hin : ∀ w ∈ u_ws RX1 TX1 11, w ∈ wsX1_wrong := by decide +kernel
  have hl : lv_has ls 2 [(0, .ref g0), (1, .int (nI name))] := hl
  have hjn := kx_inn_le nm n
  have hple := kx_pl_le nm (nI name) (kx_inn nm n) n
  refine lv_iload_n hx hb dX1_wrong_0 rfl (lv_at hl 1 rfl) ?_
  refine kv_if_lt (tgt := 10) hx hb (by omega) dX1_wrong_1 (by decide) ?_
  refine lv_iload_n hx hb dX1_wrong_4 rfl (lv_at hl 1 rfl) ?_
  refine lv_bipush (v := (nI 9)) hx hb dX1_wrong_5 (by decide) ?_
  refine kv_le (tgt := 14) hx hb (by omega) (by omega) dX1_wrong_7 (by decide) (fun h7_0 => ?_) (fun h7_0 => absurd h7_0 (by omega))
  refine lv_aload_n hx hb dX1_wrong_14 rfl (lv_at hl 0 rfl) ?_
  refine va_get (D := (dC, dI)) (ci := 1) (v := .int off) (C := RX1) (T := TX1) (N := 11) hx hb hts hin hown hK hP 0 rfl rfl 8 (by decide) (hts (.fieldLink RX1 39 "NestCellsModel" "off" "Z") (by decide +kernel)) (fun _ h9 => h9) rfl dX1_wrong_15 ?_
  refine lv_if_ne (tgt := 28) hx hb dX1_wrong_18 (by decide) (fun h18_0 => absurd h18_0 (fun q => q ho)) (fun h18_0 => ?_)
  refine lv_aload_n hx hb dX1_wrong_21 rfl (lv_at hl 0 rfl) ?_
  refine va_get (D := (dC, dI)) (ci := 1) (v := .int (nI T)) (C := RX1) (T := TX1) (N := 11) hx hb hts hin hown hK hP 0 rfl rfl 7 (by decide) (hts (.fieldLink RX1 36 "NestCellsModel" "transactions" "I") (by decide +kernel)) (fun _ h9 => h9) rfl dX1_wrong_22 ?_
  refine kv_if_ne (tgt := 32) hx hb (by omega) dX1_wrong_25 (by decide) (fun h25_0 => ?_) (fun h25_0 => absurd h25_0 (by omega))
  refine lv_aload_n hx hb dX1_wrong_32 rfl (lv_at hl 0 rfl) ?_
  refine lv_iload_n hx hb dX1_wrong_33 rfl (lv_at hl 1 rfl) ?_
  refine kv_Vi (Xr := []) (n := 1) (c_X1_find l dC dI cA g0 r1 r2 r3 r4 r5 ce w we wr nm n T cd off told wia (nI name) (by omega) hj (kv_nm1 (by omega))) hx hb hml hown hts gX1_wrong_X1_find rfl ⟨rfl, rfl⟩ (by decide +kernel) rfl ⟨Nat.le_of_ble_eq_true rfl, Nat.le_of_ble_eq_true rfl⟩ hK hP hD hS hA [0] [0, 1, 2, 3, 4, 5] [] rfl rfl rfl (by decide) (by decide) (q0 := 0) rfl rfl rfl (by decide) hl.1 rfl (Nat.le_of_ble_eq_true rfl) dX1_wrong_34 ⟨Nat.zero_le _, Nat.zero_le _⟩ (fun H locs hP hD hS => ?_)
  have hP : va_P (dC, dI) vwCl (wX1 cA g0 r1 r2 r3 r4 r5 ce w we wr nm n T cd off told wia) H := hP
  have hD : va_D A (wX1 cA g0 r1 r2 r3 r4 r5 ce w we wr nm n T cd off told wia) := hD
  refine kv_top (w := .int (nI (kx_pl nm (nI name) (kx_inn nm n) n - 1))) (by rw [← pk_sub (by omega)]) ?_
  refine kv_if_ge (tgt := 44) hx hb (by omega) dX1_wrong_37 (by decide) ?_
  refine lv_iconst (v := (nI 0)) hx hb dX1_wrong_44 (by decide) ?_
  exact kMi_ret hx hb hr hlocks hP hK hD hS dX1_wrong_45 rfl rfl
set_option maxHeartbeats 4000000 in
set_option maxRecDepth 100000 in
/-- NestCellsModel.back_a  -/
theorem c_X1_back_a (l : Launch) (dC : Nat → ClassId) (dI : Nat → Nat → Nat) (cA : ClassId) (g0 r1 r2 r3 r4 r5 : Nat) (ce w we wr nm : Nat → Int32) (n T : Nat) (cd off told wia : Int32) (name : Int32) (hw : name < 0 ∨ ¬ name < nI 10) : kMi l yX1_back wsX1_back ({ frames := 2, cells := 0, slots := 0, locals := 45 }) dC dI [(cA, .int)] (wX1 cA g0 r1 r2 r3 r4 r5 ce w we wr nm n T cd off told wia) [.ref g0, .int name] (nI 0) (wX1 cA g0 r1 r2 r3 r4 r5 ce w we wr nm n T (nI 1) off told wia) := by
  refine kMi_of (cc := cX1_back) (maxL := 4) (ret := (some .int)) (by decide) rfl (Nat.le_of_ble_eq_true rfl) ?_
  intro p e s m below meth c A ls hx hb hml hr hts hown hlocks hA hP hK hD hS hl
  have hin : ∀ w ∈ u_ws RX1 TX1 11, w ∈ wsX1_back := by decide +kernel
  have hl : lv_has ls 4 [(0, .ref g0), (1, .int name)] := hl
  refine lv_aload_n hx hb dX1_back_0 rfl (lv_at hl 0 rfl) ?_
  refine lv_aload_n hx hb dX1_back_1 rfl (lv_at hl 0 rfl) ?_
  refine lv_iload_n hx hb dX1_back_2 rfl (lv_at hl 1 rfl) ?_
  refine kv_Vi (Xr := []) (n := 1) (c_X1_wrong_a l dC dI cA g0 r1 r2 r3 r4 r5 ce w we wr nm n T cd off told wia name hw) hx hb hml hown hts gX1_back_X1_wrong rfl ⟨rfl, rfl⟩ (by decide +kernel) rfl ⟨Nat.le_of_ble_eq_true rfl, Nat.le_of_ble_eq_true rfl⟩ hK hP hD hS hA [0] [0, 1, 2, 3, 4, 5] [] rfl rfl rfl (by decide) (by decide) (q0 := 0) rfl rfl rfl (by decide) hl.1 rfl (Nat.le_of_ble_eq_true rfl) dX1_back_3 ⟨Nat.zero_le _, Nat.zero_le _⟩ (fun H locs hP hD hS => ?_)
  have hP : va_P (dC, dI) vwCl (wX1 cA g0 r1 r2 r3 r4 r5 ce w we wr nm n T cd off told wia) H := hP
  have hD : va_D A (wX1 cA g0 r1 r2 r3 r4 r5 ce w we wr nm n T cd off told wia) := hD
  refine kv_Vi (Xr := []) (n := 1) (c_X1_refuses_1 l dC dI cA g0 r1 r2 r3 r4 r5 ce w we wr nm n T cd off told wia  ) hx hb hml hown hts gX1_back_X1_refuses rfl ⟨rfl, rfl⟩ (by decide +kernel) rfl ⟨Nat.le_of_ble_eq_true rfl, Nat.le_of_ble_eq_true rfl⟩ hK hP hD hS hA [0] [0, 1, 2, 3, 4, 5] [] rfl rfl rfl (by decide) (by decide) (q0 := 0) rfl rfl rfl (by decide) hl.1 rfl (Nat.le_of_ble_eq_true rfl) dX1_back_6 ⟨Nat.zero_le _, Nat.zero_le _⟩ (fun H locs hP hD hS => ?_)
  have hP : va_P (dC, dI) vwCl (wX1 cA g0 r1 r2 r3 r4 r5 ce w we wr nm n T (nI 1) off told wia) H := hP
  have hD : va_D A (wX1 cA g0 r1 r2 r3 r4 r5 ce w we wr nm n T (nI 1) off told wia) := hD
  refine kv_if_eq (tgt := 14) hx hb (by omega) dX1_back_9 (by decide) (fun h9 => absurd h9 (by omega)) (fun _ => ?_)
  refine lv_iconst (v := (nI 0)) hx hb dX1_back_12 (by decide) ?_
  exact kMi_ret hx hb hr hlocks hP hK hD hS dX1_back_13 rfl rfl
set_option maxHeartbeats 4000000 in
set_option maxRecDepth 100000 in
/-- NestCellsModel.back_b  -/
theorem c_X1_back_b (l : Launch) (dC : Nat → ClassId) (dI : Nat → Nat → Nat) (cA : ClassId) (g0 r1 r2 r3 r4 r5 : Nat) (ce w we wr nm : Nat → Int32) (n T : Nat) (cd off told wia : Int32) (name : Nat) (hnm : name < 10) (hx9 : ¬ off = 0 ∨ T = 0) (hT8 : T ≤ 8) : kMi l yX1_back wsX1_back ({ frames := 2, cells := 0, slots := 0, locals := 45 }) dC dI [(cA, .int)] (wX1 cA g0 r1 r2 r3 r4 r5 ce w we wr nm n T cd off told wia) [.ref g0, .int (nI name)] (nI 0) (wX1 cA g0 r1 r2 r3 r4 r5 ce w we wr nm n T (nI 2) off told wia) := by
  refine kMi_of (cc := cX1_back) (maxL := 4) (ret := (some .int)) (by decide) rfl (Nat.le_of_ble_eq_true rfl) ?_
  intro p e s m below meth c A ls hx hb hml hr hts hown hlocks hA hP hK hD hS hl
  have hin : ∀ w ∈ u_ws RX1 TX1 11, w ∈ wsX1_back := by decide +kernel
  have hl : lv_has ls 4 [(0, .ref g0), (1, .int (nI name))] := hl
  refine lv_aload_n hx hb dX1_back_0 rfl (lv_at hl 0 rfl) ?_
  refine lv_aload_n hx hb dX1_back_1 rfl (lv_at hl 0 rfl) ?_
  refine lv_iload_n hx hb dX1_back_2 rfl (lv_at hl 1 rfl) ?_
  refine kv_Vi (Xr := []) (n := 1) (c_X1_wrong_b l dC dI cA g0 r1 r2 r3 r4 r5 ce w we wr nm n T cd off told wia name hnm hx9 hT8) hx hb hml hown hts gX1_back_X1_wrong rfl ⟨rfl, rfl⟩ (by decide +kernel) rfl ⟨Nat.le_of_ble_eq_true rfl, Nat.le_of_ble_eq_true rfl⟩ hK hP hD hS hA [0] [0, 1, 2, 3, 4, 5] [] rfl rfl rfl (by decide) (by decide) (q0 := 0) rfl rfl rfl (by decide) hl.1 rfl (Nat.le_of_ble_eq_true rfl) dX1_back_3 ⟨Nat.zero_le _, Nat.zero_le _⟩ (fun H locs hP hD hS => ?_)
  have hP : va_P (dC, dI) vwCl (wX1 cA g0 r1 r2 r3 r4 r5 ce w we wr nm n T cd off told wia) H := hP
  have hD : va_D A (wX1 cA g0 r1 r2 r3 r4 r5 ce w we wr nm n T cd off told wia) := hD
  refine kv_Vi (Xr := []) (n := 1) (c_X1_refuses_2 l dC dI cA g0 r1 r2 r3 r4 r5 ce w we wr nm n T cd off told wia  ) hx hb hml hown hts gX1_back_X1_refuses rfl ⟨rfl, rfl⟩ (by decide +kernel) rfl ⟨Nat.le_of_ble_eq_true rfl, Nat.le_of_ble_eq_true rfl⟩ hK hP hD hS hA [0] [0, 1, 2, 3, 4, 5] [] rfl rfl rfl (by decide) (by decide) (q0 := 0) rfl rfl rfl (by decide) hl.1 rfl (Nat.le_of_ble_eq_true rfl) dX1_back_6 ⟨Nat.zero_le _, Nat.zero_le _⟩ (fun H locs hP hD hS => ?_)
  have hP : va_P (dC, dI) vwCl (wX1 cA g0 r1 r2 r3 r4 r5 ce w we wr nm n T (nI 2) off told wia) H := hP
  have hD : va_D A (wX1 cA g0 r1 r2 r3 r4 r5 ce w we wr nm n T (nI 2) off told wia) := hD
  refine kv_if_eq (tgt := 14) hx hb (by omega) dX1_back_9 (by decide) (fun h9 => absurd h9 (by omega)) (fun _ => ?_)
  refine lv_iconst (v := (nI 0)) hx hb dX1_back_12 (by decide) ?_
  exact kMi_ret hx hb hr hlocks hP hK hD hS dX1_back_13 rfl rfl
set_option maxHeartbeats 4000000 in
set_option maxRecDepth 100000 in
/-- NestCellsModel.back_c  -/
theorem c_X1_back_c (l : Launch) (dC : Nat → ClassId) (dI : Nat → Nat → Nat) (cA : ClassId) (g0 r1 r2 r3 r4 r5 : Nat) (ce w we wr nm : Nat → Int32) (n T : Nat) (cd off told wia : Int32) (name : Nat) (hnm : name < 10) (ho : off = 0) (hT : 0 < T) (hT8 : T ≤ 8) (hn : n ≤ 88) (hj : 1 ≤ kx_inn nm n) (hpl : kx_pl nm (nI name) (kx_inn nm n) n = 0) : kMi l yX1_back wsX1_back ({ frames := 2, cells := 0, slots := 0, locals := 45 }) dC dI [(cA, .int)] (wX1 cA g0 r1 r2 r3 r4 r5 ce w we wr nm n T cd off told wia) [.ref g0, .int (nI name)] (nI 0) (wX1 cA g0 r1 r2 r3 r4 r5 ce w we wr nm n T (nI 1) off told wia) := by
  refine kMi_of (cc := cX1_back) (maxL := 4) (ret := (some .int)) (by decide) rfl (Nat.le_of_ble_eq_true rfl) ?_
  intro p e s m below meth c A ls hx hb hml hr hts hown hlocks hA hP hK hD hS hl
  have hin : ∀ w ∈ u_ws RX1 TX1 11, w ∈ wsX1_back := by decide +kernel
  have hl : lv_has ls 4 [(0, .ref g0), (1, .int (nI name))] := hl
  refine lv_aload_n hx hb dX1_back_0 rfl (lv_at hl 0 rfl) ?_
  refine lv_aload_n hx hb dX1_back_1 rfl (lv_at hl 0 rfl) ?_
  refine lv_iload_n hx hb dX1_back_2 rfl (lv_at hl 1 rfl) ?_
  refine kv_Vi (Xr := []) (n := 1) (c_X1_wrong_c l dC dI cA g0 r1 r2 r3 r4 r5 ce w we wr nm n T cd off told wia name hnm ho hT hT8 hn hj hpl) hx hb hml hown hts gX1_back_X1_wrong rfl ⟨rfl, rfl⟩ (by decide +kernel) rfl ⟨Nat.le_of_ble_eq_true rfl, Nat.le_of_ble_eq_true rfl⟩ hK hP hD hS hA [0] [0, 1, 2, 3, 4, 5] [] rfl rfl rfl (by decide) (by decide) (q0 := 0) rfl rfl rfl (by decide) hl.1 rfl (Nat.le_of_ble_eq_true rfl) dX1_back_3 ⟨Nat.zero_le _, Nat.zero_le _⟩ (fun H locs hP hD hS => ?_)
  have hP : va_P (dC, dI) vwCl (wX1 cA g0 r1 r2 r3 r4 r5 ce w we wr nm n T cd off told wia) H := hP
  have hD : va_D A (wX1 cA g0 r1 r2 r3 r4 r5 ce w we wr nm n T cd off told wia) := hD
  refine kv_Vi (Xr := []) (n := 1) (c_X1_refuses_1 l dC dI cA g0 r1 r2 r3 r4 r5 ce w we wr nm n T cd off told wia  ) hx hb hml hown hts gX1_back_X1_refuses rfl ⟨rfl, rfl⟩ (by decide +kernel) rfl ⟨Nat.le_of_ble_eq_true rfl, Nat.le_of_ble_eq_true rfl⟩ hK hP hD hS hA [0] [0, 1, 2, 3, 4, 5] [] rfl rfl rfl (by decide) (by decide) (q0 := 0) rfl rfl rfl (by decide) hl.1 rfl (Nat.le_of_ble_eq_true rfl) dX1_back_6 ⟨Nat.zero_le _, Nat.zero_le _⟩ (fun H locs hP hD hS => ?_)
  have hP : va_P (dC, dI) vwCl (wX1 cA g0 r1 r2 r3 r4 r5 ce w we wr nm n T (nI 1) off told wia) H := hP
  have hD : va_D A (wX1 cA g0 r1 r2 r3 r4 r5 ce w we wr nm n T (nI 1) off told wia) := hD
  refine kv_if_eq (tgt := 14) hx hb (by omega) dX1_back_9 (by decide) (fun h9 => absurd h9 (by omega)) (fun _ => ?_)
  refine lv_iconst (v := (nI 0)) hx hb dX1_back_12 (by decide) ?_
  exact kMi_ret hx hb hr hlocks hP hK hD hS dX1_back_13 rfl rfl
set_option maxHeartbeats 4000000 in
set_option maxRecDepth 100000 in
/-- NestCellsModel.release_a  -/
theorem c_X1_release_a (l : Launch) (dC : Nat → ClassId) (dI : Nat → Nat → Nat) (cA : ClassId) (g0 r1 r2 r3 r4 r5 : Nat) (ce w we wr nm : Nat → Int32) (n T : Nat) (cd off told wia : Int32) (name : Int32) (hw : name < 0 ∨ ¬ name < nI 10) : kMi l yX1_release wsX1_release ({ frames := 2, cells := 0, slots := 0, locals := 45 }) dC dI [(cA, .int)] (wX1 cA g0 r1 r2 r3 r4 r5 ce w we wr nm n T cd off told wia) [.ref g0, .int name] (nI 0) (wX1 cA g0 r1 r2 r3 r4 r5 ce w we wr nm n T (nI 1) off told wia) := by
  refine kMi_of (cc := cX1_release) (maxL := 2) (ret := (some .int)) (by decide) rfl (Nat.le_of_ble_eq_true rfl) ?_
  intro p e s m below meth c A ls hx hb hml hr hts hown hlocks hA hP hK hD hS hl
  have hl : lv_has ls 2 [(0, .ref g0), (1, .int name)] := hl
  refine lv_aload_n hx hb dX1_release_0 rfl (lv_at hl 0 rfl) ?_
  refine lv_aload_n hx hb dX1_release_1 rfl (lv_at hl 0 rfl) ?_
  refine lv_iload_n hx hb dX1_release_2 rfl (lv_at hl 1 rfl) ?_
  refine kv_Vi (Xr := []) (n := 1) (c_X1_wrong_a l dC dI cA g0 r1 r2 r3 r4 r5 ce w we wr nm n T cd off told wia name hw) hx hb hml hown hts gX1_release_X1_wrong rfl ⟨rfl, rfl⟩ (by decide +kernel) rfl ⟨Nat.le_of_ble_eq_true rfl, Nat.le_of_ble_eq_true rfl⟩ hK hP hD hS hA [0] [0, 1, 2, 3, 4, 5] [] rfl rfl rfl (by decide) (by decide) (q0 := 0) rfl rfl rfl (by decide) hl.1 rfl (Nat.le_of_ble_eq_true rfl) dX1_release_3 ⟨Nat.zero_le _, Nat.zero_le _⟩ (fun H locs hP hD hS => ?_)
  have hP : va_P (dC, dI) vwCl (wX1 cA g0 r1 r2 r3 r4 r5 ce w we wr nm n T cd off told wia) H := hP
  have hD : va_D A (wX1 cA g0 r1 r2 r3 r4 r5 ce w we wr nm n T cd off told wia) := hD
  refine kv_Vi (Xr := []) (n := 1) (c_X1_refuses_1 l dC dI cA g0 r1 r2 r3 r4 r5 ce w we wr nm n T cd off told wia  ) hx hb hml hown hts gX1_release_X1_refuses rfl ⟨rfl, rfl⟩ (by decide +kernel) rfl ⟨Nat.le_of_ble_eq_true rfl, Nat.le_of_ble_eq_true rfl⟩ hK hP hD hS hA [0] [0, 1, 2, 3, 4, 5] [] rfl rfl rfl (by decide) (by decide) (q0 := 0) rfl rfl rfl (by decide) hl.1 rfl (Nat.le_of_ble_eq_true rfl) dX1_release_6 ⟨Nat.zero_le _, Nat.zero_le _⟩ (fun H locs hP hD hS => ?_)
  have hP : va_P (dC, dI) vwCl (wX1 cA g0 r1 r2 r3 r4 r5 ce w we wr nm n T (nI 1) off told wia) H := hP
  have hD : va_D A (wX1 cA g0 r1 r2 r3 r4 r5 ce w we wr nm n T (nI 1) off told wia) := hD
  refine kv_if_eq (tgt := 14) hx hb (by omega) dX1_release_9 (by decide) (fun h9 => absurd h9 (by omega)) (fun _ => ?_)
  refine lv_iconst (v := (nI 0)) hx hb dX1_release_12 (by decide) ?_
  exact kMi_ret hx hb hr hlocks hP hK hD hS dX1_release_13 rfl rfl
set_option maxHeartbeats 4000000 in
set_option maxRecDepth 100000 in
/-- NestCellsModel.release_b  -/
theorem c_X1_release_b (l : Launch) (dC : Nat → ClassId) (dI : Nat → Nat → Nat) (cA : ClassId) (g0 r1 r2 r3 r4 r5 : Nat) (ce w we wr nm : Nat → Int32) (n T : Nat) (cd off told wia : Int32) (name : Nat) (hnm : name < 10) (hx9 : ¬ off = 0 ∨ T = 0) (hT8 : T ≤ 8) : kMi l yX1_release wsX1_release ({ frames := 2, cells := 0, slots := 0, locals := 45 }) dC dI [(cA, .int)] (wX1 cA g0 r1 r2 r3 r4 r5 ce w we wr nm n T cd off told wia) [.ref g0, .int (nI name)] (nI 0) (wX1 cA g0 r1 r2 r3 r4 r5 ce w we wr nm n T (nI 2) off told wia) := by
  refine kMi_of (cc := cX1_release) (maxL := 2) (ret := (some .int)) (by decide) rfl (Nat.le_of_ble_eq_true rfl) ?_
  intro p e s m below meth c A ls hx hb hml hr hts hown hlocks hA hP hK hD hS hl
  have hl : lv_has ls 2 [(0, .ref g0), (1, .int (nI name))] := hl
  refine lv_aload_n hx hb dX1_release_0 rfl (lv_at hl 0 rfl) ?_
  refine lv_aload_n hx hb dX1_release_1 rfl (lv_at hl 0 rfl) ?_
  refine lv_iload_n hx hb dX1_release_2 rfl (lv_at hl 1 rfl) ?_
  refine kv_Vi (Xr := []) (n := 1) (c_X1_wrong_b l dC dI cA g0 r1 r2 r3 r4 r5 ce w we wr nm n T cd off told wia name hnm hx9 hT8) hx hb hml hown hts gX1_release_X1_wrong rfl ⟨rfl, rfl⟩ (by decide +kernel) rfl ⟨Nat.le_of_ble_eq_true rfl, Nat.le_of_ble_eq_true rfl⟩ hK hP hD hS hA [0] [0, 1, 2, 3, 4, 5] [] rfl rfl rfl (by decide) (by decide) (q0 := 0) rfl rfl rfl (by decide) hl.1 rfl (Nat.le_of_ble_eq_true rfl) dX1_release_3 ⟨Nat.zero_le _, Nat.zero_le _⟩ (fun H locs hP hD hS => ?_)
  have hP : va_P (dC, dI) vwCl (wX1 cA g0 r1 r2 r3 r4 r5 ce w we wr nm n T cd off told wia) H := hP
  have hD : va_D A (wX1 cA g0 r1 r2 r3 r4 r5 ce w we wr nm n T cd off told wia) := hD
  refine kv_Vi (Xr := []) (n := 1) (c_X1_refuses_2 l dC dI cA g0 r1 r2 r3 r4 r5 ce w we wr nm n T cd off told wia  ) hx hb hml hown hts gX1_release_X1_refuses rfl ⟨rfl, rfl⟩ (by decide +kernel) rfl ⟨Nat.le_of_ble_eq_true rfl, Nat.le_of_ble_eq_true rfl⟩ hK hP hD hS hA [0] [0, 1, 2, 3, 4, 5] [] rfl rfl rfl (by decide) (by decide) (q0 := 0) rfl rfl rfl (by decide) hl.1 rfl (Nat.le_of_ble_eq_true rfl) dX1_release_6 ⟨Nat.zero_le _, Nat.zero_le _⟩ (fun H locs hP hD hS => ?_)
  have hP : va_P (dC, dI) vwCl (wX1 cA g0 r1 r2 r3 r4 r5 ce w we wr nm n T (nI 2) off told wia) H := hP
  have hD : va_D A (wX1 cA g0 r1 r2 r3 r4 r5 ce w we wr nm n T (nI 2) off told wia) := hD
  refine kv_if_eq (tgt := 14) hx hb (by omega) dX1_release_9 (by decide) (fun h9 => absurd h9 (by omega)) (fun _ => ?_)
  refine lv_iconst (v := (nI 0)) hx hb dX1_release_12 (by decide) ?_
  exact kMi_ret hx hb hr hlocks hP hK hD hS dX1_release_13 rfl rfl
set_option maxHeartbeats 4000000 in
set_option maxRecDepth 100000 in
/-- NestCellsModel.release_c  -/
theorem c_X1_release_c (l : Launch) (dC : Nat → ClassId) (dI : Nat → Nat → Nat) (cA : ClassId) (g0 r1 r2 r3 r4 r5 : Nat) (ce w we wr nm : Nat → Int32) (n T : Nat) (cd off told wia : Int32) (name : Nat) (hnm : name < 10) (ho : off = 0) (hT : 0 < T) (hT8 : T ≤ 8) (hn : n ≤ 88) (hj : 1 ≤ kx_inn nm n) (hpl : kx_pl nm (nI name) (kx_inn nm n) n = 0) : kMi l yX1_release wsX1_release ({ frames := 2, cells := 0, slots := 0, locals := 45 }) dC dI [(cA, .int)] (wX1 cA g0 r1 r2 r3 r4 r5 ce w we wr nm n T cd off told wia) [.ref g0, .int (nI name)] (nI 0) (wX1 cA g0 r1 r2 r3 r4 r5 ce w we wr nm n T (nI 1) off told wia) := by
  refine kMi_of (cc := cX1_release) (maxL := 2) (ret := (some .int)) (by decide) rfl (Nat.le_of_ble_eq_true rfl) ?_
  intro p e s m below meth c A ls hx hb hml hr hts hown hlocks hA hP hK hD hS hl
  have hl : lv_has ls 2 [(0, .ref g0), (1, .int (nI name))] := hl
  refine lv_aload_n hx hb dX1_release_0 rfl (lv_at hl 0 rfl) ?_
  refine lv_aload_n hx hb dX1_release_1 rfl (lv_at hl 0 rfl) ?_
  refine lv_iload_n hx hb dX1_release_2 rfl (lv_at hl 1 rfl) ?_
  refine kv_Vi (Xr := []) (n := 1) (c_X1_wrong_c l dC dI cA g0 r1 r2 r3 r4 r5 ce w we wr nm n T cd off told wia name hnm ho hT hT8 hn hj hpl) hx hb hml hown hts gX1_release_X1_wrong rfl ⟨rfl, rfl⟩ (by decide +kernel) rfl ⟨Nat.le_of_ble_eq_true rfl, Nat.le_of_ble_eq_true rfl⟩ hK hP hD hS hA [0] [0, 1, 2, 3, 4, 5] [] rfl rfl rfl (by decide) (by decide) (q0 := 0) rfl rfl rfl (by decide) hl.1 rfl (Nat.le_of_ble_eq_true rfl) dX1_release_3 ⟨Nat.zero_le _, Nat.zero_le _⟩ (fun H locs hP hD hS => ?_)
  have hP : va_P (dC, dI) vwCl (wX1 cA g0 r1 r2 r3 r4 r5 ce w we wr nm n T cd off told wia) H := hP
  have hD : va_D A (wX1 cA g0 r1 r2 r3 r4 r5 ce w we wr nm n T cd off told wia) := hD
  refine kv_Vi (Xr := []) (n := 1) (c_X1_refuses_1 l dC dI cA g0 r1 r2 r3 r4 r5 ce w we wr nm n T cd off told wia  ) hx hb hml hown hts gX1_release_X1_refuses rfl ⟨rfl, rfl⟩ (by decide +kernel) rfl ⟨Nat.le_of_ble_eq_true rfl, Nat.le_of_ble_eq_true rfl⟩ hK hP hD hS hA [0] [0, 1, 2, 3, 4, 5] [] rfl rfl rfl (by decide) (by decide) (q0 := 0) rfl rfl rfl (by decide) hl.1 rfl (Nat.le_of_ble_eq_true rfl) dX1_release_6 ⟨Nat.zero_le _, Nat.zero_le _⟩ (fun H locs hP hD hS => ?_)
  have hP : va_P (dC, dI) vwCl (wX1 cA g0 r1 r2 r3 r4 r5 ce w we wr nm n T (nI 1) off told wia) H := hP
  have hD : va_D A (wX1 cA g0 r1 r2 r3 r4 r5 ce w we wr nm n T (nI 1) off told wia) := hD
  refine kv_if_eq (tgt := 14) hx hb (by omega) dX1_release_9 (by decide) (fun h9 => absurd h9 (by omega)) (fun _ => ?_)
  refine lv_iconst (v := (nI 0)) hx hb dX1_release_12 (by decide) ?_
  exact kMi_ret hx hb hr hlocks hP hK hD hS dX1_release_13 rfl rfl
set_option maxHeartbeats 4000000 in
set_option maxRecDepth 100000 in
/-- NestCellsModel.back  -/
theorem c_X1_back (l : Launch) (dC : Nat → ClassId) (dI : Nat → Nat → Nat) (cA : ClassId) (g0 r1 r2 r3 r4 r5 : Nat) (ce w we wr nm : Nat → Int32) (n T : Nat) (cd off told wia : Int32) (name : Nat) (hnm : name < 10) (ho : off = 0) (hT : 0 < T) (hT8 : T ≤ 8) (hn : n ≤ 88) (hj : 1 ≤ kx_inn nm n) (hpl : 1 ≤ kx_pl nm (nI name) (kx_inn nm n) n) : kMi l yX1_back wsX1_back ({ frames := 2, cells := 0, slots := 0, locals := 45 }) dC dI [(cA, .int)] (wX1 cA g0 r1 r2 r3 r4 r5 ce w we wr nm n T cd off told wia) [.ref g0, .int (nI name)] (nI (rx_sm wr (kx_pl nm (nI name) (kx_inn nm n) n - 1) (n - (kx_pl nm (nI name) (kx_inn nm n) n - 1)))) (wX1 cA g0 r1 r2 r3 r4 r5 (rx_ce ce we (kx_pl nm (nI name) (kx_inn nm n) n - 1) 32) w we (upd wr (kx_pl nm (nI name) (kx_inn nm n) n - 1) (nI 0)) nm (kx_pl nm (nI name) (kx_inn nm n) n - 1 + 1) T (nI 0) off told wia) := by
  refine kMi_of (cc := cX1_back) (maxL := 4) (ret := (some .int)) (by decide) rfl (Nat.le_of_ble_eq_true rfl) ?_
  intro p e s m below meth c A ls hx hb hml hr hts hown hlocks hA hP hK hD hS hl
  have hin : ∀ w ∈ u_ws RX1 TX1 11, w ∈ wsX1_back := by decide +kernel
  have hl : lv_has ls 4 [(0, .ref g0), (1, .int (nI name))] := hl
  have hjn := kx_inn_le nm n
  have hple := kx_pl_le nm (nI name) (kx_inn nm n) n
  refine lv_aload_n hx hb dX1_back_0 rfl (lv_at hl 0 rfl) ?_
  refine lv_aload_n hx hb dX1_back_1 rfl (lv_at hl 0 rfl) ?_
  refine lv_iload_n hx hb dX1_back_2 rfl (lv_at hl 1 rfl) ?_
  refine kv_Vi (Xr := []) (n := 1) (c_X1_wrong_o l dC dI cA g0 r1 r2 r3 r4 r5 ce w we wr nm n T cd off told wia name hnm ho hT hT8 hn hj hpl) hx hb hml hown hts gX1_back_X1_wrong rfl ⟨rfl, rfl⟩ (by decide +kernel) rfl ⟨Nat.le_of_ble_eq_true rfl, Nat.le_of_ble_eq_true rfl⟩ hK hP hD hS hA [0] [0, 1, 2, 3, 4, 5] [] rfl rfl rfl (by decide) (by decide) (q0 := 0) rfl rfl rfl (by decide) hl.1 rfl (Nat.le_of_ble_eq_true rfl) dX1_back_3 ⟨Nat.zero_le _, Nat.zero_le _⟩ (fun H locs hP hD hS => ?_)
  have hP : va_P (dC, dI) vwCl (wX1 cA g0 r1 r2 r3 r4 r5 ce w we wr nm n T cd off told wia) H := hP
  have hD : va_D A (wX1 cA g0 r1 r2 r3 r4 r5 ce w we wr nm n T cd off told wia) := hD
  refine kv_Vi (Xr := []) (n := 1) (c_X1_refuses_0 l dC dI cA g0 r1 r2 r3 r4 r5 ce w we wr nm n T cd off told wia  ) hx hb hml hown hts gX1_back_X1_refuses rfl ⟨rfl, rfl⟩ (by decide +kernel) rfl ⟨Nat.le_of_ble_eq_true rfl, Nat.le_of_ble_eq_true rfl⟩ hK hP hD hS hA [0] [0, 1, 2, 3, 4, 5] [] rfl rfl rfl (by decide) (by decide) (q0 := 0) rfl rfl rfl (by decide) hl.1 rfl (Nat.le_of_ble_eq_true rfl) dX1_back_6 ⟨Nat.zero_le _, Nat.zero_le _⟩ (fun H locs hP hD hS => ?_)
  have hP : va_P (dC, dI) vwCl (wX1 cA g0 r1 r2 r3 r4 r5 ce w we wr nm n T (nI 0) off told wia) H := hP
  have hD : va_D A (wX1 cA g0 r1 r2 r3 r4 r5 ce w we wr nm n T (nI 0) off told wia) := hD
  refine kv_if_eq (tgt := 14) hx hb (by omega) dX1_back_9 (by decide) (fun _ => ?_) (fun h9 => absurd h9 (by omega))
  refine lv_aload_n hx hb dX1_back_14 rfl (lv_at hl 0 rfl) ?_
  refine lv_iload_n hx hb dX1_back_15 rfl (lv_at hl 1 rfl) ?_
  refine kv_Vi (Xr := []) (n := 1) (c_X1_find l dC dI cA g0 r1 r2 r3 r4 r5 ce w we wr nm n T (nI 0) off told wia (nI name) (by omega) hj (kv_nm1 (by omega))) hx hb hml hown hts gX1_back_X1_find rfl ⟨rfl, rfl⟩ (by decide +kernel) rfl ⟨Nat.le_of_ble_eq_true rfl, Nat.le_of_ble_eq_true rfl⟩ hK hP hD hS hA [0] [0, 1, 2, 3, 4, 5] [] rfl rfl rfl (by decide) (by decide) (q0 := 0) rfl rfl rfl (by decide) hl.1 rfl (Nat.le_of_ble_eq_true rfl) dX1_back_16 ⟨Nat.zero_le _, Nat.zero_le _⟩ (fun H locs hP hD hS => ?_)
  have hP : va_P (dC, dI) vwCl (wX1 cA g0 r1 r2 r3 r4 r5 ce w we wr nm n T (nI 0) off told wia) H := hP
  have hD : va_D A (wX1 cA g0 r1 r2 r3 r4 r5 ce w we wr nm n T (nI 0) off told wia) := hD
  refine kv_top (w := .int (nI (kx_pl nm (nI name) (kx_inn nm n) n - 1))) (by rw [← pk_sub (by omega)]) ?_
  refine lv_istore_n (lv' := [(2, .int (nI (kx_pl nm (nI name) (kx_inn nm n) n - 1))), (0, .ref g0), (1, .int (nI name))]) hx hb dX1_back_19 rfl hl (by decide) rfl (fun ls hl => ?_)
  refine lv_aload_n hx hb dX1_back_20 rfl (lv_at hl 1 rfl) ?_
  refine lv_iload_n hx hb dX1_back_21 rfl (lv_at hl 0 rfl) ?_
  refine kv_Vi (Xr := []) (n := 1) (c_X1_returns l dC dI cA g0 r1 r2 r3 r4 r5 ce w we wr nm n T (nI 0) off told wia (kx_pl nm (nI name) (kx_inn nm n) n - 1) (by omega) (by omega)) hx hb hml hown hts gX1_back_X1_returns rfl ⟨rfl, rfl⟩ (by decide +kernel) rfl ⟨Nat.le_of_ble_eq_true rfl, Nat.le_of_ble_eq_true rfl⟩ hK hP hD hS hA [0] [0, 1, 2, 3, 4, 5] [] rfl rfl rfl (by decide) (by decide) (q0 := 0) rfl rfl rfl (by decide) hl.1 rfl (Nat.le_of_ble_eq_true rfl) dX1_back_22 ⟨Nat.zero_le _, Nat.zero_le _⟩ (fun H locs hP hD hS => ?_)
  have hP : va_P (dC, dI) vwCl (wX1 cA g0 r1 r2 r3 r4 r5 (rx_ce ce we (kx_pl nm (nI name) (kx_inn nm n) n - 1) 32) w we wr nm n T (nI 0) off told wia) H := hP
  have hD : va_D A (wX1 cA g0 r1 r2 r3 r4 r5 (rx_ce ce we (kx_pl nm (nI name) (kx_inn nm n) n - 1) 32) w we wr nm n T (nI 0) off told wia) := hD
  refine lv_istore_n (lv' := [(3, .int (nI (rx_sm wr (kx_pl nm (nI name) (kx_inn nm n) n - 1) (n - (kx_pl nm (nI name) (kx_inn nm n) n - 1))))), (2, .int (nI (kx_pl nm (nI name) (kx_inn nm n) n - 1))), (0, .ref g0), (1, .int (nI name))]) hx hb dX1_back_25 rfl hl (by decide) rfl (fun ls hl => ?_)
  refine lv_aload_n hx hb dX1_back_26 rfl (lv_at hl 2 rfl) ?_
  refine lv_iload_n hx hb dX1_back_27 rfl (lv_at hl 1 rfl) ?_
  refine lv_iconst (v := (nI 1)) hx hb dX1_back_28 (by decide) ?_
  refine kv_addE (d := (kx_pl nm (nI name) (kx_inn nm n) n - 1) + 1) hx hb (by omega) dX1_back_29 ?_
  refine va_put (D := (dC, dI)) (ci := 1) (v := .int (nI ((kx_pl nm (nI name) (kx_inn nm n) n - 1) + 1))) (ty := .int) (C := RX1) (T := TX1) (N := 11) hx hb hts hin tyX1 tyX1_ok nmX1 hown hK hP hD hS 0 rfl rfl 6 (by decide) (hts (.fieldLink RX1 29 "NestCellsModel" "levels" "I") (by decide +kernel)) (fun _ h9 => h9) rfl (by decide +kernel) rfl rfl (Nat.le_of_ble_eq_true rfl) dX1_back_30 (fun H locs hP hD hS => ?_)
  have hP : va_P (dC, dI) vwCl (wX1 cA g0 r1 r2 r3 r4 r5 (rx_ce ce we (kx_pl nm (nI name) (kx_inn nm n) n - 1) 32) w we wr nm ((kx_pl nm (nI name) (kx_inn nm n) n - 1) + 1) T (nI 0) off told wia) H := hP
  have hD : va_D A (wX1 cA g0 r1 r2 r3 r4 r5 (rx_ce ce we (kx_pl nm (nI name) (kx_inn nm n) n - 1) 32) w we wr nm ((kx_pl nm (nI name) (kx_inn nm n) n - 1) + 1) T (nI 0) off told wia) := hD
  refine lv_aload_n hx hb dX1_back_33 rfl (lv_at hl 2 rfl) ?_
  refine va_get (D := (dC, dI)) (ci := 1) (v := .ref r4) (C := RX1) (T := TX1) (N := 11) hx hb hts hin hown hK hP 0 rfl rfl 4 (by decide) (hts (.fieldLink RX1 19 "NestCellsModel" "written" "[I") (by decide +kernel)) (fun _ h9 => h9) rfl dX1_back_34 ?_
  refine lv_iload_n hx hb dX1_back_37 rfl (lv_at hl 1 rfl) ?_
  refine lv_iconst (v := (nI 0)) hx hb dX1_back_38 (by decide) ?_
  refine kv_iast hx hb hK hP hD hS 4 0 rfl rfl (by omega) (by omega) dX1_back_39 (fun H locs hP hD hS => ?_)
  have hP : va_P (dC, dI) vwCl (wX1 cA g0 r1 r2 r3 r4 r5 (rx_ce ce we (kx_pl nm (nI name) (kx_inn nm n) n - 1) 32) w we (upd wr (kx_pl nm (nI name) (kx_inn nm n) n - 1) (nI 0)) nm ((kx_pl nm (nI name) (kx_inn nm n) n - 1) + 1) T (nI 0) off told wia) H := hP
  have hD : va_D A (wX1 cA g0 r1 r2 r3 r4 r5 (rx_ce ce we (kx_pl nm (nI name) (kx_inn nm n) n - 1) 32) w we (upd wr (kx_pl nm (nI name) (kx_inn nm n) n - 1) (nI 0)) nm ((kx_pl nm (nI name) (kx_inn nm n) n - 1) + 1) T (nI 0) off told wia) := hD
  refine lv_iload_n hx hb dX1_back_40 rfl (lv_at hl 0 rfl) ?_
  exact kMi_ret hx hb hr hlocks hP hK hD hS dX1_back_41 rfl rfl
set_option maxHeartbeats 4000000 in
set_option maxRecDepth 100000 in
/-- NestCellsModel.release  -/
theorem c_X1_release (l : Launch) (dC : Nat → ClassId) (dI : Nat → Nat → Nat) (cA : ClassId) (g0 r1 r2 r3 r4 r5 : Nat) (ce w we wr nm : Nat → Int32) (n T : Nat) (cd off told wia : Int32) (name : Nat) (hnm : name < 10) (ho : off = 0) (hT : 0 < T) (hT8 : T ≤ 8) (hn : n ≤ 88) (hj : 1 ≤ kx_inn nm n) (hpl : 2 ≤ kx_pl nm (nI name) (kx_inn nm n) n) (hj9 : 1 ≤ kx_inn (kx_sh nm (kx_pl nm (nI name) (kx_inn nm n) n - 1) n) (n - 1)) : kMi l yX1_release wsX1_release ({ frames := 2, cells := 0, slots := 0, locals := 45 }) dC dI [(cA, .int)] (wX1 cA g0 r1 r2 r3 r4 r5 ce w we wr nm n T cd off told wia) [.ref g0, .int (nI name)] (nI (n - 1 - kx_inn (kx_sh nm (kx_pl nm (nI name) (kx_inn nm n) n - 1) n) (n - 1))) (wX1 cA g0 r1 r2 r3 r4 r5 ce w (rx_sw we (kx_pl nm (nI name) (kx_inn nm n) n - 1) (32 * (n - 1))) (kx_sh (upd wr ((kx_pl nm (nI name) (kx_inn nm n) n - 1) - 1) (wr ((kx_pl nm (nI name) (kx_inn nm n) n - 1) - 1) ||| wr (kx_pl nm (nI name) (kx_inn nm n) n - 1))) (kx_pl nm (nI name) (kx_inn nm n) n - 1) n) (kx_sh nm (kx_pl nm (nI name) (kx_inn nm n) n - 1) n) (n - 1) T (nI 0) off told wia) := by
  refine kMi_of (cc := cX1_release) (maxL := 2) (ret := (some .int)) (by decide) rfl (Nat.le_of_ble_eq_true rfl) ?_
  intro p e s m below meth c A ls hx hb hml hr hts hown hlocks hA hP hK hD hS hl
  have hl : lv_has ls 2 [(0, .ref g0), (1, .int (nI name))] := hl
  have hjn := kx_inn_le nm n
  have hple := kx_pl_le nm (nI name) (kx_inn nm n) n
  refine lv_aload_n hx hb dX1_release_0 rfl (lv_at hl 0 rfl) ?_
  refine lv_aload_n hx hb dX1_release_1 rfl (lv_at hl 0 rfl) ?_
  refine lv_iload_n hx hb dX1_release_2 rfl (lv_at hl 1 rfl) ?_
  refine kv_Vi (Xr := []) (n := 1) (c_X1_wrong_o l dC dI cA g0 r1 r2 r3 r4 r5 ce w we wr nm n T cd off told wia name hnm ho hT hT8 hn hj (by omega)) hx hb hml hown hts gX1_release_X1_wrong rfl ⟨rfl, rfl⟩ (by decide +kernel) rfl ⟨Nat.le_of_ble_eq_true rfl, Nat.le_of_ble_eq_true rfl⟩ hK hP hD hS hA [0] [0, 1, 2, 3, 4, 5] [] rfl rfl rfl (by decide) (by decide) (q0 := 0) rfl rfl rfl (by decide) hl.1 rfl (Nat.le_of_ble_eq_true rfl) dX1_release_3 ⟨Nat.zero_le _, Nat.zero_le _⟩ (fun H locs hP hD hS => ?_)
  have hP : va_P (dC, dI) vwCl (wX1 cA g0 r1 r2 r3 r4 r5 ce w we wr nm n T cd off told wia) H := hP
  have hD : va_D A (wX1 cA g0 r1 r2 r3 r4 r5 ce w we wr nm n T cd off told wia) := hD
  refine kv_Vi (Xr := []) (n := 1) (c_X1_refuses_0 l dC dI cA g0 r1 r2 r3 r4 r5 ce w we wr nm n T cd off told wia  ) hx hb hml hown hts gX1_release_X1_refuses rfl ⟨rfl, rfl⟩ (by decide +kernel) rfl ⟨Nat.le_of_ble_eq_true rfl, Nat.le_of_ble_eq_true rfl⟩ hK hP hD hS hA [0] [0, 1, 2, 3, 4, 5] [] rfl rfl rfl (by decide) (by decide) (q0 := 0) rfl rfl rfl (by decide) hl.1 rfl (Nat.le_of_ble_eq_true rfl) dX1_release_6 ⟨Nat.zero_le _, Nat.zero_le _⟩ (fun H locs hP hD hS => ?_)
  have hP : va_P (dC, dI) vwCl (wX1 cA g0 r1 r2 r3 r4 r5 ce w we wr nm n T (nI 0) off told wia) H := hP
  have hD : va_D A (wX1 cA g0 r1 r2 r3 r4 r5 ce w we wr nm n T (nI 0) off told wia) := hD
  refine kv_if_eq (tgt := 14) hx hb (by omega) dX1_release_9 (by decide) (fun _ => ?_) (fun h9 => absurd h9 (by omega))
  refine lv_aload_n hx hb dX1_release_14 rfl (lv_at hl 0 rfl) ?_
  refine lv_aload_n hx hb dX1_release_15 rfl (lv_at hl 0 rfl) ?_
  refine lv_iload_n hx hb dX1_release_16 rfl (lv_at hl 1 rfl) ?_
  refine kv_Vi (Xr := []) (n := 1) (c_X1_find l dC dI cA g0 r1 r2 r3 r4 r5 ce w we wr nm n T (nI 0) off told wia (nI name) (by omega) hj (kv_nm1 (by omega))) hx hb hml hown hts gX1_release_X1_find rfl ⟨rfl, rfl⟩ (by decide +kernel) rfl ⟨Nat.le_of_ble_eq_true rfl, Nat.le_of_ble_eq_true rfl⟩ hK hP hD hS hA [0] [0, 1, 2, 3, 4, 5] [] rfl rfl rfl (by decide) (by decide) (q0 := 0) rfl rfl rfl (by decide) hl.1 rfl (Nat.le_of_ble_eq_true rfl) dX1_release_17 ⟨Nat.zero_le _, Nat.zero_le _⟩ (fun H locs hP hD hS => ?_)
  have hP : va_P (dC, dI) vwCl (wX1 cA g0 r1 r2 r3 r4 r5 ce w we wr nm n T (nI 0) off told wia) H := hP
  have hD : va_D A (wX1 cA g0 r1 r2 r3 r4 r5 ce w we wr nm n T (nI 0) off told wia) := hD
  refine kv_top (w := .int (nI (kx_pl nm (nI name) (kx_inn nm n) n - 1))) (by rw [← pk_sub (by omega)]) ?_
  refine kv_Vv (Xr := []) (n := 1) (c_X1_melts l dC dI cA g0 r1 r2 r3 r4 r5 ce w we wr nm n T (nI 0) off told wia (kx_pl nm (nI name) (kx_inn nm n) n - 1) (by omega) (by omega) (by omega)) hx hb hml hown hts gX1_release_X1_melts rfl ⟨rfl, rfl⟩ (by decide +kernel) rfl ⟨Nat.le_of_ble_eq_true rfl, Nat.le_of_ble_eq_true rfl⟩ hK hP hD hS hA [0] [0, 1, 2, 3, 4, 5] [] rfl rfl rfl (by decide) (by decide) (q0 := 0) rfl rfl rfl (by decide) hl.1 rfl (Nat.le_of_ble_eq_true rfl) dX1_release_20 ⟨Nat.zero_le _, Nat.zero_le _⟩ (fun H locs hP hD hS => ?_)
  have hP : va_P (dC, dI) vwCl (wX1 cA g0 r1 r2 r3 r4 r5 ce w (rx_sw we (kx_pl nm (nI name) (kx_inn nm n) n - 1) (32 * (n - 1))) (kx_sh (upd wr ((kx_pl nm (nI name) (kx_inn nm n) n - 1) - 1) (wr ((kx_pl nm (nI name) (kx_inn nm n) n - 1) - 1) ||| wr (kx_pl nm (nI name) (kx_inn nm n) n - 1))) (kx_pl nm (nI name) (kx_inn nm n) n - 1) n) (kx_sh nm (kx_pl nm (nI name) (kx_inn nm n) n - 1) n) (n - 1) T (nI 0) off told wia) H := hP
  have hD : va_D A (wX1 cA g0 r1 r2 r3 r4 r5 ce w (rx_sw we (kx_pl nm (nI name) (kx_inn nm n) n - 1) (32 * (n - 1))) (kx_sh (upd wr ((kx_pl nm (nI name) (kx_inn nm n) n - 1) - 1) (wr ((kx_pl nm (nI name) (kx_inn nm n) n - 1) - 1) ||| wr (kx_pl nm (nI name) (kx_inn nm n) n - 1))) (kx_pl nm (nI name) (kx_inn nm n) n - 1) n) (kx_sh nm (kx_pl nm (nI name) (kx_inn nm n) n - 1) n) (n - 1) T (nI 0) off told wia) := hD
  refine lv_aload_n hx hb dX1_release_23 rfl (lv_at hl 0 rfl) ?_
  refine kv_Vi (Xr := []) (n := 0) (c_X1_points_p l dC dI cA g0 r1 r2 r3 r4 r5 ce w (rx_sw we (kx_pl nm (nI name) (kx_inn nm n) n - 1) (32 * (n - 1))) (kx_sh (upd wr ((kx_pl nm (nI name) (kx_inn nm n) n - 1) - 1) (wr ((kx_pl nm (nI name) (kx_inn nm n) n - 1) - 1) ||| wr (kx_pl nm (nI name) (kx_inn nm n) n - 1))) (kx_pl nm (nI name) (kx_inn nm n) n - 1) n) (kx_sh nm (kx_pl nm (nI name) (kx_inn nm n) n - 1) n) (n - 1) T (nI 0) off told wia  hT hT8 (by omega) hj9) hx hb hml hown hts gX1_release_X1_points rfl ⟨rfl, rfl⟩ (by decide +kernel) rfl ⟨Nat.le_of_ble_eq_true rfl, Nat.le_of_ble_eq_true rfl⟩ hK hP hD hS hA [0] [0, 1, 2, 3, 4, 5] [] rfl rfl rfl (by decide) (by decide) (q0 := 0) rfl rfl rfl (by decide) hl.1 rfl (Nat.le_of_ble_eq_true rfl) dX1_release_24 ⟨Nat.zero_le _, Nat.zero_le _⟩ (fun H locs hP hD hS => ?_)
  have hP : va_P (dC, dI) vwCl (wX1 cA g0 r1 r2 r3 r4 r5 ce w (rx_sw we (kx_pl nm (nI name) (kx_inn nm n) n - 1) (32 * (n - 1))) (kx_sh (upd wr ((kx_pl nm (nI name) (kx_inn nm n) n - 1) - 1) (wr ((kx_pl nm (nI name) (kx_inn nm n) n - 1) - 1) ||| wr (kx_pl nm (nI name) (kx_inn nm n) n - 1))) (kx_pl nm (nI name) (kx_inn nm n) n - 1) n) (kx_sh nm (kx_pl nm (nI name) (kx_inn nm n) n - 1) n) (n - 1) T (nI 0) off told wia) H := hP
  have hD : va_D A (wX1 cA g0 r1 r2 r3 r4 r5 ce w (rx_sw we (kx_pl nm (nI name) (kx_inn nm n) n - 1) (32 * (n - 1))) (kx_sh (upd wr ((kx_pl nm (nI name) (kx_inn nm n) n - 1) - 1) (wr ((kx_pl nm (nI name) (kx_inn nm n) n - 1) - 1) ||| wr (kx_pl nm (nI name) (kx_inn nm n) n - 1))) (kx_pl nm (nI name) (kx_inn nm n) n - 1) n) (kx_sh nm (kx_pl nm (nI name) (kx_inn nm n) n - 1) n) (n - 1) T (nI 0) off told wia) := hD
  exact kMi_ret hx hb hr hlocks hP hK hD hS dX1_release_27 rfl rfl
set_option maxHeartbeats 4000000 in
set_option maxRecDepth 100000 in
/-- NestCellsModel.crash  -/
theorem c_X1_crash (l : Launch) (dC : Nat → ClassId) (dI : Nat → Nat → Nat) (cA : ClassId) (g0 r1 r2 r3 r4 r5 : Nat) (ce w we wr nm : Nat → Int32) (n T : Nat) (cd off told wia : Int32) (c1 : Int32)  : kMv l yX1_crash wsX1_crash ({ frames := 0, cells := 0, slots := 0, locals := 0 }) dC dI [(cA, .int)] (wX1 cA g0 r1 r2 r3 r4 r5 ce w we wr nm n T cd off told wia) [.ref g0, .int c1] (wX1 cA g0 r1 r2 r3 r4 r5 ce w we wr nm n T (nI 0) off (if nI 1 ≤ c1 then c1 else nI 0) wia) := by
  refine kMv_of (cc := cX1_crash) (maxL := 2) (ret := none) (by decide) rfl (Nat.le_of_ble_eq_true rfl) ?_
  intro p e s m below meth c A ls hx hb hml hr hts hown hlocks hA hP hK hD hS hl
  have hin : ∀ w ∈ u_ws RX1 TX1 11, w ∈ wsX1_crash := by decide +kernel
  have hl : lv_has ls 2 [(0, .ref g0), (1, .int c1)] := hl
  refine lv_aload_n hx hb dX1_crash_0 rfl (lv_at hl 0 rfl) ?_
  refine lv_iconst (v := (nI 0)) hx hb dX1_crash_1 (by decide) ?_
  refine va_put (D := (dC, dI)) (ci := 1) (v := .int (nI 0)) (ty := .int) (C := RX1) (T := TX1) (N := 11) hx hb hts hin tyX1 tyX1_ok nmX1 hown hK hP hD hS 0 rfl rfl 0 (by decide) (hts (.fieldLink RX1 25 "NestCellsModel" "code" "I") (by decide +kernel)) (fun _ h9 => h9) rfl (by decide +kernel) rfl rfl (Nat.le_of_ble_eq_true rfl) dX1_crash_2 (fun H locs hP hD hS => ?_)
  have hP : va_P (dC, dI) vwCl (wX1 cA g0 r1 r2 r3 r4 r5 ce w we wr nm n T (nI 0) off told wia) H := hP
  have hD : va_D A (wX1 cA g0 r1 r2 r3 r4 r5 ce w we wr nm n T (nI 0) off told wia) := hD
  refine lv_aload_n hx hb dX1_crash_5 rfl (lv_at hl 0 rfl) ?_
  refine lv_iload_n hx hb dX1_crash_6 rfl (lv_at hl 1 rfl) ?_
  refine lv_iconst (v := (nI 1)) hx hb dX1_crash_7 (by decide) ?_
  refine lv_icmp_ge (tgt := 15) hx hb dX1_crash_8 (by decide) (fun h8_0 => ?_) (fun h8_0 => ?_)
  · skip
    refine lv_iload_n hx hb dX1_crash_15 rfl (lv_at hl 1 rfl) ?_
    refine va_put (D := (dC, dI)) (ci := 1) (v := .int c1) (ty := .int) (C := RX1) (T := TX1) (N := 11) hx hb hts hin tyX1 tyX1_ok nmX1 hown hK hP hD hS 0 rfl rfl 9 (by decide) (hts (.fieldLink RX1 43 "NestCellsModel" "told" "I") (by decide +kernel)) (fun _ h9 => h9) rfl (by decide +kernel) rfl rfl (Nat.le_of_ble_eq_true rfl) dX1_crash_16 (fun H locs hP hD hS => ?_)
    have hP : va_P (dC, dI) vwCl (wX1 cA g0 r1 r2 r3 r4 r5 ce w we wr nm n T (nI 0) off c1 wia) H := hP
    have hD : va_D A (wX1 cA g0 r1 r2 r3 r4 r5 ce w we wr nm n T (nI 0) off c1 wia) := hD
    exact kMv_ret hx hb hr hlocks hP hK hD hS dX1_crash_19 (by simp [h8_0])
  · skip
    refine lv_iconst (v := (nI 0)) hx hb dX1_crash_11 (by decide) ?_
    refine lv_goto (tgt := 16) hx hb dX1_crash_12 (by decide) ?_
    refine va_put (D := (dC, dI)) (ci := 1) (v := .int (nI 0)) (ty := .int) (C := RX1) (T := TX1) (N := 11) hx hb hts hin tyX1 tyX1_ok nmX1 hown hK hP hD hS 0 rfl rfl 9 (by decide) (hts (.fieldLink RX1 43 "NestCellsModel" "told" "I") (by decide +kernel)) (fun _ h9 => h9) rfl (by decide +kernel) rfl rfl (Nat.le_of_ble_eq_true rfl) dX1_crash_16 (fun H locs hP hD hS => ?_)
    have hP : va_P (dC, dI) vwCl (wX1 cA g0 r1 r2 r3 r4 r5 ce w we wr nm n T (nI 0) off (nI 0) wia) H := hP
    have hD : va_D A (wX1 cA g0 r1 r2 r3 r4 r5 ce w we wr nm n T (nI 0) off (nI 0) wia) := hD
    exact kMv_ret hx hb hr hlocks hP hK hD hS dX1_crash_19 (by simp [h8_0])
