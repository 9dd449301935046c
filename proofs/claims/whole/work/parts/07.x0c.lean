set_option maxHeartbeats 4000000 in
set_option maxRecDepth 100000 in
/-- NestCells.foldLevel  -/
theorem c_X0_foldLevel (l : Launch) (dC : Nat → ClassId) (dI : Nat → Nat → Nat) (cA : ClassId) (h0 q0 q1 q2 q3 q4 q5 : Nat) (w ce nm tl tc tw : Nat → Int32) (T n z : Nat) (wtc wia off : Int32) (lev : Nat) (hz : z ≤ 60) (hn : n ≤ 88) (hlev : 1 ≤ lev) (hlev2 : lev < n) : kMv l yX0_foldLevel wsX0_foldLevel ({ frames := 1, cells := 0, slots := 0, locals := 23 }) dC dI [(cA, .int)] (wX0 cA h0 q0 q1 q2 q3 q4 q5 w ce nm tl tc tw T n z wtc wia off) [.ref h0, .int (nI lev)] (wX0 cA h0 q0 q1 q2 q3 q4 q5 w ce (kx_sh nm lev n) ((kx_fo (kx_tc tl tc (nI (lev - 1)) z) (nI lev) tl tc tw z).2.1) ((kx_fo (kx_tc tl tc (nI (lev - 1)) z) (nI lev) tl tc tw z).2.2.1) ((kx_fo (kx_tc tl tc (nI (lev - 1)) z) (nI lev) tl tc tw z).2.2.2) T (n - 1) ((kx_fo (kx_tc tl tc (nI (lev - 1)) z) (nI lev) tl tc tw z).1) wtc wia off) := by
  refine kMv_of (cc := cX0_foldLevel) (maxL := 5) (ret := none) (by decide) rfl (Nat.le_of_ble_eq_true rfl) ?_
  intro p e s m below meth c A ls hx hb hml hr hts hown hlocks hA hP hK hD hS hl
  have hin : ∀ w ∈ u_ws RX0 TX0 12, w ∈ wsX0_foldLevel := by decide +kernel
  have hl : lv_has ls 5 [(0, .ref h0), (1, .int (nI lev))] := hl
  refine lv_aload_n hx hb dX0_foldLevel_0 rfl (lv_at hl 0 rfl) ?_
  refine lv_iload_n hx hb dX0_foldLevel_1 rfl (lv_at hl 1 rfl) ?_
  refine lv_iconst (v := (nI 1)) hx hb dX0_foldLevel_2 (by decide) ?_
  refine kv_subE (d := lev - 1) hx hb (by omega) dX0_foldLevel_3 ?_
  refine kv_Vi (Xr := []) (n := 1) (c_X0_tracedCells l dC dI cA h0 q0 q1 q2 q3 q4 q5 w ce nm tl tc tw T n z wtc wia off (nI (lev - 1)) (by omega)) hx hb hml hown hts gX0_foldLevel_X0_tracedCells rfl ⟨rfl, rfl⟩ (by decide +kernel) rfl ⟨Nat.le_of_ble_eq_true rfl, Nat.le_of_ble_eq_true rfl⟩ hK hP hD hS hA [0] [0, 1, 2, 3, 4, 5, 6] [] rfl rfl rfl (by decide) (by decide) (q0 := 0) rfl rfl rfl (by decide) hl.1 rfl (Nat.le_of_ble_eq_true rfl) dX0_foldLevel_4 ⟨Nat.zero_le _, Nat.zero_le _⟩ (fun H locs hP hD hS => ?_)
  have hP : va_P (dC, dI) vwCl (wX0 cA h0 q0 q1 q2 q3 q4 q5 w ce nm tl tc tw T n z wtc wia off) H := hP
  have hD : va_D A (wX0 cA h0 q0 q1 q2 q3 q4 q5 w ce nm tl tc tw T n z wtc wia off) := hD
  refine lv_istore_n (lv' := [(2, .int (kx_tc tl tc (nI (lev - 1)) z)), (0, .ref h0), (1, .int (nI lev))]) hx hb dX0_foldLevel_7 rfl hl (by decide) rfl (fun ls hl => ?_)
  refine lv_iconst (v := (nI 0)) hx hb dX0_foldLevel_8 (by decide) ?_
  refine lv_istore_n (lv' := [(3, .int (nI 0)), (2, .int (kx_tc tl tc (nI (lev - 1)) z)), (0, .ref h0), (1, .int (nI lev))]) hx hb dX0_foldLevel_9 rfl hl (by decide) rfl (fun ls hl => ?_)
  refine lv_iconst (v := (nI 0)) hx hb dX0_foldLevel_10 (by decide) ?_
  refine lv_istore (lv' := [(4, .int (nI 0)), (3, .int (nI 0)), (2, .int (kx_tc tl tc (nI (lev - 1)) z)), (0, .ref h0), (1, .int (nI lev))]) hx hb dX0_foldLevel_11 hl (by decide) rfl (fun ls hl => ?_)
  obtain ⟨F, hF⟩ : ∃ F, F = kx_fo (kx_tc tl tc (nI (lev - 1)) z) (nI lev) tl tc tw := ⟨_, rfl⟩
  have hFl : ∀ t, (F t).1 ≤ t := fun t => by rw [hF]; exact kx_fo_le _ _ _ _ _ t
  have hFs : ∀ t, F (t + 1) = if (F t).2.1 t = nI lev ∧ ¬ kx_holds (kx_tc tl tc (nI (lev - 1)) z) ((F t).2.2.1 t) = 0 then F t else ((F t).1 + 1, upd (F t).2.1 (F t).1 (if nI lev ≤ (F t).2.1 t then (F t).2.1 t - nI 1 else (F t).2.1 t), upd (F t).2.2.1 (F t).1 ((F t).2.2.1 t), upd (F t).2.2.2 (F t).1 ((F t).2.2.2 t)) := fun t => by rw [hF]; rfl
  have hP : va_P (dC, dI) vwCl (wX0 cA h0 q0 q1 q2 q3 q4 q5 w ce nm ((F 0).2.1) ((F 0).2.2.1) ((F 0).2.2.2) T n z wtc wia off) H := by rw [hF]; exact hP
  have hD : va_D A (wX0 cA h0 q0 q1 q2 q3 q4 q5 w ce nm ((F 0).2.1) ((F 0).2.2.1) ((F 0).2.2.2) T n z wtc wia off) := by rw [hF]; exact hD
  have hl : lv_has ls 5 [(4, .int (nI 0)), (3, .int (nI ((F 0).1))), (2, .int (kx_tc tl tc (nI (lev - 1)) z)), (0, .ref h0), (1, .int (nI lev))] := by rw [hF]; exact hl
  have lp : ∀ (k : Nat) (t : Nat), ∀ (_ : t + k = z), ∀ (H : Heap) (locs : List Loc) (ls : Array Slot), va_P (dC, dI) vwCl (wX0 cA h0 q0 q1 q2 q3 q4 q5 w ce nm ((F t).2.1) ((F t).2.2.1) ((F t).2.2.2) T n z wtc wia off) H → va_D A (wX0 cA h0 q0 q1 q2 q3 q4 q5 w ce nm ((F t).2.1) ((F t).2.2.1) ((F t).2.2.2) T n z wtc wia off) → va_S A s.heap H locs → lv_has ls 5 [(0, .ref h0), (1, .int (nI lev)), (2, .int (kx_tc tl tc (nI (lev - 1)) z)), (3, .int (nI ((F t).1))), (4, .int (nI t))] → W p l e (headSpec wsX0_foldLevel ({ frames := 1, cells := 0, slots := 0, locals := 23 })).room s m ([.ref h0, .int (nI lev)] : List Value).toArray below meth c H locs 0 0 (MQ below (va_Qv (fun (_ : Unit) => True) (kB dC dI [(cA, .int)] (wX0 cA h0 q0 q1 q2 q3 q4 q5 w ce (kx_sh nm lev n) ((kx_fo (kx_tc tl tc (nI (lev - 1)) z) (nI lev) tl tc tw z).2.1) ((kx_fo (kx_tc tl tc (nI (lev - 1)) z) (nI lev) tl tc tw z).2.2.1) ((kx_fo (kx_tc tl tc (nI (lev - 1)) z) (nI lev) tl tc tw z).2.2.2) T (n - 1) ((kx_fo (kx_tc tl tc (nI (lev - 1)) z) (nI lev) tl tc tw z).1) wtc wia off) A) A) ([.ref h0, .int (nI lev)] : List Value).toArray s 0 0 A) (F0 m 13 ls []) := by
    intro k
    induction k with
    | zero =>
      intro t ht H locs ls hP hD hS hl
      refine lv_iload hx hb dX0_foldLevel_13 (lv_at hl 4 rfl) ?_
      refine lv_aload_n hx hb dX0_foldLevel_15 rfl (lv_at hl 0 rfl) ?_
      refine va_get (D := (dC, dI)) (ci := 0) (v := .int (nI z)) (C := RX0) (T := TX0) (N := 12) hx hb hts hin hown hK hP 0 rfl rfl 8 (by decide) (hts (.fieldLink RX0 82 "NestCells" "traces" "I") (by decide +kernel)) (fun _ h9 => h9) rfl dX0_foldLevel_16 ?_
      refine kv_ge (tgt := 118) hx hb (by omega) (by omega) dX0_foldLevel_19 (by decide) (fun h19_0 => ?_) (fun h19_0 => absurd h19_0 (by omega))
      have htz : t = z := by omega
      rw [htz] at hP hD hl
      have hP : va_P (dC, dI) vwCl (wX0 cA h0 q0 q1 q2 q3 q4 q5 w ce nm ((F z).2.1) ((F z).2.2.1) ((F z).2.2.2) T n z wtc wia off) H := by exact hP
      have hD : va_D A (wX0 cA h0 q0 q1 q2 q3 q4 q5 w ce nm ((F z).2.1) ((F z).2.2.1) ((F z).2.2.2) T n z wtc wia off) := by exact hD
      have hl : lv_has ls 5 [(0, .ref h0), (1, .int (nI lev)), (2, .int (kx_tc tl tc (nI (lev - 1)) z)), (3, .int (nI ((F z).1))), (4, .int (nI z))] := by exact hl
      refine lv_aload_n hx hb dX0_foldLevel_118 rfl (lv_at hl 0 rfl) ?_
      refine lv_iload_n hx hb dX0_foldLevel_119 rfl (lv_at hl 3 rfl) ?_
      refine va_put (D := (dC, dI)) (ci := 0) (v := .int (nI ((F z).1))) (ty := .int) (C := RX0) (T := TX0) (N := 12) hx hb hts hin tyX0 tyX0_ok nmX0 hown hK hP hD hS 0 rfl rfl 8 (by decide) (hts (.fieldLink RX0 82 "NestCells" "traces" "I") (by decide +kernel)) (fun _ h9 => h9) rfl (by decide +kernel) rfl rfl (Nat.le_of_ble_eq_true rfl) dX0_foldLevel_120 (fun H locs hP hD hS => ?_)
      have hP : va_P (dC, dI) vwCl (wX0 cA h0 q0 q1 q2 q3 q4 q5 w ce nm ((F z).2.1) ((F z).2.2.1) ((F z).2.2.2) T n ((F z).1) wtc wia off) H := hP
      have hD : va_D A (wX0 cA h0 q0 q1 q2 q3 q4 q5 w ce nm ((F z).2.1) ((F z).2.2.1) ((F z).2.2.2) T n ((F z).1) wtc wia off) := hD
      refine lv_iload_n hx hb dX0_foldLevel_123 rfl (lv_at hl 1 rfl) ?_
      refine lv_iconst (v := (nI 1)) hx hb dX0_foldLevel_124 (by decide) ?_
      refine kv_addE (d := lev + 1) hx hb (by omega) dX0_foldLevel_125 ?_
      refine lv_istore (lv' := [(4, .int (nI (lev + 1))), (0, .ref h0), (1, .int (nI lev)), (2, .int (kx_tc tl tc (nI (lev - 1)) z)), (3, .int (nI ((F z).1)))]) hx hb dX0_foldLevel_126 hl (by decide) rfl (fun ls hl => ?_)
      have hP : va_P (dC, dI) vwCl (wX0 cA h0 q0 q1 q2 q3 q4 q5 w ce (kx_sh nm lev (lev + 1)) ((F z).2.1) ((F z).2.2.1) ((F z).2.2.2) T n ((F z).1) wtc wia off) H := by rw [kx_sh_0]; exact hP
      have hD : va_D A (wX0 cA h0 q0 q1 q2 q3 q4 q5 w ce (kx_sh nm lev (lev + 1)) ((F z).2.1) ((F z).2.2.1) ((F z).2.2.2) T n ((F z).1) wtc wia off) := by rw [kx_sh_0]; exact hD
      have lp : ∀ (k : Nat) (i : Nat), ∀ (_ : i + k = n), ∀ (_ : lev < i), ∀ (H : Heap) (locs : List Loc) (ls : Array Slot), va_P (dC, dI) vwCl (wX0 cA h0 q0 q1 q2 q3 q4 q5 w ce (kx_sh nm lev i) ((F z).2.1) ((F z).2.2.1) ((F z).2.2.2) T n ((F z).1) wtc wia off) H → va_D A (wX0 cA h0 q0 q1 q2 q3 q4 q5 w ce (kx_sh nm lev i) ((F z).2.1) ((F z).2.2.1) ((F z).2.2.2) T n ((F z).1) wtc wia off) → va_S A s.heap H locs → lv_has ls 5 [(0, .ref h0), (1, .int (nI lev)), (4, .int (nI i))] → W p l e (headSpec wsX0_foldLevel ({ frames := 1, cells := 0, slots := 0, locals := 23 })).room s m ([.ref h0, .int (nI lev)] : List Value).toArray below meth c H locs 0 0 (MQ below (va_Qv (fun (_ : Unit) => True) (kB dC dI [(cA, .int)] (wX0 cA h0 q0 q1 q2 q3 q4 q5 w ce (kx_sh nm lev n) ((kx_fo (kx_tc tl tc (nI (lev - 1)) z) (nI lev) tl tc tw z).2.1) ((kx_fo (kx_tc tl tc (nI (lev - 1)) z) (nI lev) tl tc tw z).2.2.1) ((kx_fo (kx_tc tl tc (nI (lev - 1)) z) (nI lev) tl tc tw z).2.2.2) T (n - 1) ((kx_fo (kx_tc tl tc (nI (lev - 1)) z) (nI lev) tl tc tw z).1) wtc wia off) A) A) ([.ref h0, .int (nI lev)] : List Value).toArray s 0 0 A) (F0 m 128 ls []) := by
        intro k
        induction k with
        | zero =>
          intro i hi hi2 H locs ls hP hD hS hl
          refine lv_iload hx hb dX0_foldLevel_128 (lv_at hl 2 rfl) ?_
          refine lv_aload_n hx hb dX0_foldLevel_130 rfl (lv_at hl 0 rfl) ?_
          refine va_get (D := (dC, dI)) (ci := 0) (v := .int (nI n)) (C := RX0) (T := TX0) (N := 12) hx hb hts hin hown hK hP 0 rfl rfl 7 (by decide) (hts (.fieldLink RX0 71 "NestCells" "levels" "I") (by decide +kernel)) (fun _ h9 => h9) rfl dX0_foldLevel_131 ?_
          refine kv_ge (tgt := 159) hx hb (by omega) (by omega) dX0_foldLevel_134 (by decide) (fun h134_0 => ?_) (fun h134_0 => absurd h134_0 (by omega))
          refine lv_aload_n hx hb dX0_foldLevel_159 rfl (lv_at hl 0 rfl) ?_
          refine lv_dup hx hb dX0_foldLevel_160 rfl ?_
          refine va_get (D := (dC, dI)) (ci := 0) (v := .int (nI n)) (C := RX0) (T := TX0) (N := 12) hx hb hts hin hown hK hP 0 rfl rfl 7 (by decide) (hts (.fieldLink RX0 71 "NestCells" "levels" "I") (by decide +kernel)) (fun _ h9 => h9) rfl dX0_foldLevel_161 ?_
          refine lv_iconst (v := (nI 1)) hx hb dX0_foldLevel_164 (by decide) ?_
          refine kv_subE (d := n - 1) hx hb (by omega) dX0_foldLevel_165 ?_
          refine va_put (D := (dC, dI)) (ci := 0) (v := .int (nI (n - 1))) (ty := .int) (C := RX0) (T := TX0) (N := 12) hx hb hts hin tyX0 tyX0_ok nmX0 hown hK hP hD hS 0 rfl rfl 7 (by decide) (hts (.fieldLink RX0 71 "NestCells" "levels" "I") (by decide +kernel)) (fun _ h9 => h9) rfl (by decide +kernel) rfl rfl (Nat.le_of_ble_eq_true rfl) dX0_foldLevel_166 (fun H locs hP hD hS => ?_)
          have hP : va_P (dC, dI) vwCl (wX0 cA h0 q0 q1 q2 q3 q4 q5 w ce (kx_sh nm lev i) ((F z).2.1) ((F z).2.2.1) ((F z).2.2.2) T (n - 1) ((F z).1) wtc wia off) H := hP
          have hD : va_D A (wX0 cA h0 q0 q1 q2 q3 q4 q5 w ce (kx_sh nm lev i) ((F z).2.1) ((F z).2.2.1) ((F z).2.2.2) T (n - 1) ((F z).1) wtc wia off) := hD
          exact kMv_ret hx hb hr hlocks hP hK hD hS dX0_foldLevel_169 (by rw [hF, show i = n by omega])
        | succ k ih =>
          intro i hi hi2 H locs ls hP hD hS hl
          refine lv_iload hx hb dX0_foldLevel_128 (lv_at hl 2 rfl) ?_
          refine lv_aload_n hx hb dX0_foldLevel_130 rfl (lv_at hl 0 rfl) ?_
          refine va_get (D := (dC, dI)) (ci := 0) (v := .int (nI n)) (C := RX0) (T := TX0) (N := 12) hx hb hts hin hown hK hP 0 rfl rfl 7 (by decide) (hts (.fieldLink RX0 71 "NestCells" "levels" "I") (by decide +kernel)) (fun _ h9 => h9) rfl dX0_foldLevel_131 ?_
          refine kv_ge (tgt := 159) hx hb (by omega) (by omega) dX0_foldLevel_134 (by decide) (fun h134_0 => absurd h134_0 (by omega)) (fun h134_0 => ?_)
          refine lv_aload_n hx hb dX0_foldLevel_137 rfl (lv_at hl 0 rfl) ?_
          refine va_get (D := (dC, dI)) (ci := 0) (v := .ref q2) (C := RX0) (T := TX0) (N := 12) hx hb hts hin hown hK hP 0 rfl rfl 2 (by decide) (hts (.fieldLink RX0 16 "NestCells" "levelName" "[I") (by decide +kernel)) (fun _ h9 => h9) rfl dX0_foldLevel_138 ?_
          refine lv_iload hx hb dX0_foldLevel_141 (lv_at hl 2 rfl) ?_
          refine lv_iconst (v := (nI 1)) hx hb dX0_foldLevel_143 (by decide) ?_
          refine kv_subE (d := i - 1) hx hb (by omega) dX0_foldLevel_144 ?_
          refine lv_aload_n hx hb dX0_foldLevel_145 rfl (lv_at hl 0 rfl) ?_
          refine va_get (D := (dC, dI)) (ci := 0) (v := .ref q2) (C := RX0) (T := TX0) (N := 12) hx hb hts hin hown hK hP 0 rfl rfl 2 (by decide) (hts (.fieldLink RX0 16 "NestCells" "levelName" "[I") (by decide +kernel)) (fun _ h9 => h9) rfl dX0_foldLevel_146 ?_
          refine lv_iload hx hb dX0_foldLevel_149 (lv_at hl 2 rfl) ?_
          refine kv_iald hx hb hK hP 3 0 rfl rfl (by omega) (by omega) dX0_foldLevel_151 ?_
          refine kv_iast hx hb hK hP hD hS 3 0 rfl rfl (by omega) (by omega) dX0_foldLevel_152 (fun H locs hP hD hS => ?_)
          have hP : va_P (dC, dI) vwCl (wX0 cA h0 q0 q1 q2 q3 q4 q5 w ce (upd (kx_sh nm lev i) (i - 1) ((kx_sh nm lev i) i)) ((F z).2.1) ((F z).2.2.1) ((F z).2.2.2) T n ((F z).1) wtc wia off) H := hP
          have hD : va_D A (wX0 cA h0 q0 q1 q2 q3 q4 q5 w ce (upd (kx_sh nm lev i) (i - 1) ((kx_sh nm lev i) i)) ((F z).2.1) ((F z).2.2.1) ((F z).2.2.2) T n ((F z).1) wtc wia off) := hD
          refine lv_iinc (v := (nI (i + 1))) (lv' := [(4, .int (nI (i + 1))), (0, .ref h0), (1, .int (nI lev))]) hx hb dX0_foldLevel_153 hl (k := 2) rfl (kv_inc _ 1 (by decide)) (by decide) rfl (fun ls hl => ?_)
          refine lv_goto (tgt := 128) hx hb dX0_foldLevel_156 (by decide) ?_
          have hP : va_P (dC, dI) vwCl (wX0 cA h0 q0 q1 q2 q3 q4 q5 w ce (kx_sh nm lev (i + 1)) ((F z).2.1) ((F z).2.2.1) ((F z).2.2.2) T n ((F z).1) wtc wia off) H := by rw [← kx_sh_s _ _ _ (by omega)]; exact hP
          have hD : va_D A (wX0 cA h0 q0 q1 q2 q3 q4 q5 w ce (kx_sh nm lev (i + 1)) ((F z).2.1) ((F z).2.2.1) ((F z).2.2.2) T n ((F z).1) wtc wia off) := by rw [← kx_sh_s _ _ _ (by omega)]; exact hD
          exact ih (i + 1) (by omega) (by omega) _ _ _ hP hD hS (lv_sub hl [1, 2, 0] rfl)
      exact lp (n - (lev + 1)) (lev + 1) (by omega) (by omega) _ _ _ hP hD hS (lv_sub hl [1, 2, 0] rfl)
    | succ k ih =>
      intro t ht H locs ls hP hD hS hl
      have hkt := hFl t
      refine lv_iload hx hb dX0_foldLevel_13 (lv_at hl 4 rfl) ?_
      refine lv_aload_n hx hb dX0_foldLevel_15 rfl (lv_at hl 0 rfl) ?_
      refine va_get (D := (dC, dI)) (ci := 0) (v := .int (nI z)) (C := RX0) (T := TX0) (N := 12) hx hb hts hin hown hK hP 0 rfl rfl 8 (by decide) (hts (.fieldLink RX0 82 "NestCells" "traces" "I") (by decide +kernel)) (fun _ h9 => h9) rfl dX0_foldLevel_16 ?_
      refine kv_ge (tgt := 118) hx hb (by omega) (by omega) dX0_foldLevel_19 (by decide) (fun h19_0 => absurd h19_0 (by omega)) (fun h19_0 => ?_)
      refine lv_aload_n hx hb dX0_foldLevel_22 rfl (lv_at hl 0 rfl) ?_
      refine va_get (D := (dC, dI)) (ci := 0) (v := .ref q3) (C := RX0) (T := TX0) (N := 12) hx hb hts hin hown hK hP 0 rfl rfl 3 (by decide) (hts (.fieldLink RX0 19 "NestCells" "traceLevel" "[I") (by decide +kernel)) (fun _ h9 => h9) rfl dX0_foldLevel_23 ?_
      refine lv_iload hx hb dX0_foldLevel_26 (lv_at hl 4 rfl) ?_
      refine kv_iald hx hb hK hP 4 0 rfl rfl (by omega) (by omega) dX0_foldLevel_28 ?_
      refine lv_iload_n hx hb dX0_foldLevel_29 rfl (lv_at hl 1 rfl) ?_
      refine lv_icmp_ne (tgt := 47) hx hb dX0_foldLevel_30 (by decide) (fun h30_0 => ?_) (fun h30_0 => ?_)
      · skip
        refine lv_aload_n hx hb dX0_foldLevel_47 rfl (lv_at hl 0 rfl) ?_
        refine va_get (D := (dC, dI)) (ci := 0) (v := .ref q3) (C := RX0) (T := TX0) (N := 12) hx hb hts hin hown hK hP 0 rfl rfl 3 (by decide) (hts (.fieldLink RX0 19 "NestCells" "traceLevel" "[I") (by decide +kernel)) (fun _ h9 => h9) rfl dX0_foldLevel_48 ?_
        refine lv_iload_n hx hb dX0_foldLevel_51 rfl (lv_at hl 3 rfl) ?_
        refine lv_aload_n hx hb dX0_foldLevel_52 rfl (lv_at hl 0 rfl) ?_
        refine va_get (D := (dC, dI)) (ci := 0) (v := .ref q3) (C := RX0) (T := TX0) (N := 12) hx hb hts hin hown hK hP 0 rfl rfl 3 (by decide) (hts (.fieldLink RX0 19 "NestCells" "traceLevel" "[I") (by decide +kernel)) (fun _ h9 => h9) rfl dX0_foldLevel_53 ?_
        refine lv_iload hx hb dX0_foldLevel_56 (lv_at hl 4 rfl) ?_
        refine kv_iald hx hb hK hP 4 0 rfl rfl (by omega) (by omega) dX0_foldLevel_58 ?_
        refine lv_iload_n hx hb dX0_foldLevel_59 rfl (lv_at hl 1 rfl) ?_
        refine lv_icmp_ge (tgt := 73) hx hb dX0_foldLevel_60 (by decide) (fun h60_1 => ?_) (fun h60_1 => ?_)
        · skip
          refine lv_aload_n hx hb dX0_foldLevel_73 rfl (lv_at hl 0 rfl) ?_
          refine va_get (D := (dC, dI)) (ci := 0) (v := .ref q3) (C := RX0) (T := TX0) (N := 12) hx hb hts hin hown hK hP 0 rfl rfl 3 (by decide) (hts (.fieldLink RX0 19 "NestCells" "traceLevel" "[I") (by decide +kernel)) (fun _ h9 => h9) rfl dX0_foldLevel_74 ?_
          refine lv_iload hx hb dX0_foldLevel_77 (lv_at hl 4 rfl) ?_
          refine kv_iald hx hb hK hP 4 0 rfl rfl (by omega) (by omega) dX0_foldLevel_79 ?_
          refine lv_iconst (v := (nI 1)) hx hb dX0_foldLevel_80 (by decide) ?_
          refine lv_isub hx hb dX0_foldLevel_81 ?_
          refine kv_iast hx hb hK hP hD hS 4 0 rfl rfl (by omega) (by omega) dX0_foldLevel_82 (fun H locs hP hD hS => ?_)
          have hP : va_P (dC, dI) vwCl (wX0 cA h0 q0 q1 q2 q3 q4 q5 w ce nm (upd ((F t).2.1) ((F t).1) ((((F t).2.1) t) - (nI 1))) ((F t).2.2.1) ((F t).2.2.2) T n z wtc wia off) H := hP
          have hD : va_D A (wX0 cA h0 q0 q1 q2 q3 q4 q5 w ce nm (upd ((F t).2.1) ((F t).1) ((((F t).2.1) t) - (nI 1))) ((F t).2.2.1) ((F t).2.2.2) T n z wtc wia off) := hD
          refine lv_aload_n hx hb dX0_foldLevel_83 rfl (lv_at hl 0 rfl) ?_
          refine va_get (D := (dC, dI)) (ci := 0) (v := .ref q4) (C := RX0) (T := TX0) (N := 12) hx hb hts hin hown hK hP 0 rfl rfl 4 (by decide) (hts (.fieldLink RX0 22 "NestCells" "traceCell" "[I") (by decide +kernel)) (fun _ h9 => h9) rfl dX0_foldLevel_84 ?_
          refine lv_iload_n hx hb dX0_foldLevel_87 rfl (lv_at hl 3 rfl) ?_
          refine lv_aload_n hx hb dX0_foldLevel_88 rfl (lv_at hl 0 rfl) ?_
          refine va_get (D := (dC, dI)) (ci := 0) (v := .ref q4) (C := RX0) (T := TX0) (N := 12) hx hb hts hin hown hK hP 0 rfl rfl 4 (by decide) (hts (.fieldLink RX0 22 "NestCells" "traceCell" "[I") (by decide +kernel)) (fun _ h9 => h9) rfl dX0_foldLevel_89 ?_
          refine lv_iload hx hb dX0_foldLevel_92 (lv_at hl 4 rfl) ?_
          refine kv_iald hx hb hK hP 5 0 rfl rfl (by omega) (by omega) dX0_foldLevel_94 ?_
          refine kv_iast hx hb hK hP hD hS 5 0 rfl rfl (by omega) (by omega) dX0_foldLevel_95 (fun H locs hP hD hS => ?_)
          have hP : va_P (dC, dI) vwCl (wX0 cA h0 q0 q1 q2 q3 q4 q5 w ce nm (upd ((F t).2.1) ((F t).1) ((((F t).2.1) t) - (nI 1))) (upd ((F t).2.2.1) ((F t).1) (((F t).2.2.1) t)) ((F t).2.2.2) T n z wtc wia off) H := hP
          have hD : va_D A (wX0 cA h0 q0 q1 q2 q3 q4 q5 w ce nm (upd ((F t).2.1) ((F t).1) ((((F t).2.1) t) - (nI 1))) (upd ((F t).2.2.1) ((F t).1) (((F t).2.2.1) t)) ((F t).2.2.2) T n z wtc wia off) := hD
          refine lv_aload_n hx hb dX0_foldLevel_96 rfl (lv_at hl 0 rfl) ?_
          refine va_get (D := (dC, dI)) (ci := 0) (v := .ref q5) (C := RX0) (T := TX0) (N := 12) hx hb hts hin hown hK hP 0 rfl rfl 5 (by decide) (hts (.fieldLink RX0 25 "NestCells" "traceWas" "[I") (by decide +kernel)) (fun _ h9 => h9) rfl dX0_foldLevel_97 ?_
          refine lv_iload_n hx hb dX0_foldLevel_100 rfl (lv_at hl 3 rfl) ?_
          refine lv_aload_n hx hb dX0_foldLevel_101 rfl (lv_at hl 0 rfl) ?_
          refine va_get (D := (dC, dI)) (ci := 0) (v := .ref q5) (C := RX0) (T := TX0) (N := 12) hx hb hts hin hown hK hP 0 rfl rfl 5 (by decide) (hts (.fieldLink RX0 25 "NestCells" "traceWas" "[I") (by decide +kernel)) (fun _ h9 => h9) rfl dX0_foldLevel_102 ?_
          refine lv_iload hx hb dX0_foldLevel_105 (lv_at hl 4 rfl) ?_
          refine kv_iald hx hb hK hP 6 0 rfl rfl (by omega) (by omega) dX0_foldLevel_107 ?_
          refine kv_iast hx hb hK hP hD hS 6 0 rfl rfl (by omega) (by omega) dX0_foldLevel_108 (fun H locs hP hD hS => ?_)
          have hP : va_P (dC, dI) vwCl (wX0 cA h0 q0 q1 q2 q3 q4 q5 w ce nm (upd ((F t).2.1) ((F t).1) ((((F t).2.1) t) - (nI 1))) (upd ((F t).2.2.1) ((F t).1) (((F t).2.2.1) t)) (upd ((F t).2.2.2) ((F t).1) (((F t).2.2.2) t)) T n z wtc wia off) H := hP
          have hD : va_D A (wX0 cA h0 q0 q1 q2 q3 q4 q5 w ce nm (upd ((F t).2.1) ((F t).1) ((((F t).2.1) t) - (nI 1))) (upd ((F t).2.2.1) ((F t).1) (((F t).2.2.1) t)) (upd ((F t).2.2.2) ((F t).1) (((F t).2.2.2) t)) T n z wtc wia off) := hD
          refine lv_iinc (v := (nI (((F t).1) + 1))) (lv' := [(3, .int (nI (((F t).1) + 1))), (0, .ref h0), (1, .int (nI lev)), (2, .int (kx_tc tl tc (nI (lev - 1)) z)), (4, .int (nI t))]) hx hb dX0_foldLevel_109 hl (k := 3) rfl (kv_inc _ 1 (by decide)) (by decide) rfl (fun ls hl => ?_)
          refine lv_iinc (v := (nI (t + 1))) (lv' := [(4, .int (nI (t + 1))), (3, .int (nI (((F t).1) + 1))), (0, .ref h0), (1, .int (nI lev)), (2, .int (kx_tc tl tc (nI (lev - 1)) z))]) hx hb dX0_foldLevel_112 hl (k := 4) rfl (kv_inc _ 1 (by decide)) (by decide) rfl (fun ls hl => ?_)
          refine lv_goto (tgt := 13) hx hb dX0_foldLevel_115 (by decide) ?_
          have e1 : F (t + 1) = ((F t).1 + 1, upd ((F t).2.1) ((F t).1) ((((F t).2.1) t) - (nI 1)), upd ((F t).2.2.1) ((F t).1) (((F t).2.2.1) t), upd ((F t).2.2.2) ((F t).1) (((F t).2.2.2) t)) := by rw [hFs, if_neg (fun q => h30_0 q.1), if_pos h60_1]
          have hP : va_P (dC, dI) vwCl (wX0 cA h0 q0 q1 q2 q3 q4 q5 w ce nm ((F (t + 1)).2.1) ((F (t + 1)).2.2.1) ((F (t + 1)).2.2.2) T n z wtc wia off) H := by rw [e1]; exact hP
          have hD : va_D A (wX0 cA h0 q0 q1 q2 q3 q4 q5 w ce nm ((F (t + 1)).2.1) ((F (t + 1)).2.2.1) ((F (t + 1)).2.2.2) T n z wtc wia off) := by rw [e1]; exact hD
          have hl : lv_has ls 5 [(4, .int (nI (t + 1))), (3, .int (nI ((F (t + 1)).1))), (0, .ref h0), (1, .int (nI lev)), (2, .int (kx_tc tl tc (nI (lev - 1)) z))] := by rw [e1]; exact hl
          exact ih (t + 1) (by omega) _ _ _ hP hD hS (lv_sub hl [2, 3, 4, 1, 0] rfl)
        · skip
          refine lv_aload_n hx hb dX0_foldLevel_63 rfl (lv_at hl 0 rfl) ?_
          refine va_get (D := (dC, dI)) (ci := 0) (v := .ref q3) (C := RX0) (T := TX0) (N := 12) hx hb hts hin hown hK hP 0 rfl rfl 3 (by decide) (hts (.fieldLink RX0 19 "NestCells" "traceLevel" "[I") (by decide +kernel)) (fun _ h9 => h9) rfl dX0_foldLevel_64 ?_
          refine lv_iload hx hb dX0_foldLevel_67 (lv_at hl 4 rfl) ?_
          refine kv_iald hx hb hK hP 4 0 rfl rfl (by omega) (by omega) dX0_foldLevel_69 ?_
          refine lv_goto (tgt := 82) hx hb dX0_foldLevel_70 (by decide) ?_
          refine kv_iast hx hb hK hP hD hS 4 0 rfl rfl (by omega) (by omega) dX0_foldLevel_82 (fun H locs hP hD hS => ?_)
          have hP : va_P (dC, dI) vwCl (wX0 cA h0 q0 q1 q2 q3 q4 q5 w ce nm (upd ((F t).2.1) ((F t).1) (((F t).2.1) t)) ((F t).2.2.1) ((F t).2.2.2) T n z wtc wia off) H := hP
          have hD : va_D A (wX0 cA h0 q0 q1 q2 q3 q4 q5 w ce nm (upd ((F t).2.1) ((F t).1) (((F t).2.1) t)) ((F t).2.2.1) ((F t).2.2.2) T n z wtc wia off) := hD
          refine lv_aload_n hx hb dX0_foldLevel_83 rfl (lv_at hl 0 rfl) ?_
          refine va_get (D := (dC, dI)) (ci := 0) (v := .ref q4) (C := RX0) (T := TX0) (N := 12) hx hb hts hin hown hK hP 0 rfl rfl 4 (by decide) (hts (.fieldLink RX0 22 "NestCells" "traceCell" "[I") (by decide +kernel)) (fun _ h9 => h9) rfl dX0_foldLevel_84 ?_
          refine lv_iload_n hx hb dX0_foldLevel_87 rfl (lv_at hl 3 rfl) ?_
          refine lv_aload_n hx hb dX0_foldLevel_88 rfl (lv_at hl 0 rfl) ?_
          refine va_get (D := (dC, dI)) (ci := 0) (v := .ref q4) (C := RX0) (T := TX0) (N := 12) hx hb hts hin hown hK hP 0 rfl rfl 4 (by decide) (hts (.fieldLink RX0 22 "NestCells" "traceCell" "[I") (by decide +kernel)) (fun _ h9 => h9) rfl dX0_foldLevel_89 ?_
          refine lv_iload hx hb dX0_foldLevel_92 (lv_at hl 4 rfl) ?_
          refine kv_iald hx hb hK hP 5 0 rfl rfl (by omega) (by omega) dX0_foldLevel_94 ?_
          refine kv_iast hx hb hK hP hD hS 5 0 rfl rfl (by omega) (by omega) dX0_foldLevel_95 (fun H locs hP hD hS => ?_)
          have hP : va_P (dC, dI) vwCl (wX0 cA h0 q0 q1 q2 q3 q4 q5 w ce nm (upd ((F t).2.1) ((F t).1) (((F t).2.1) t)) (upd ((F t).2.2.1) ((F t).1) (((F t).2.2.1) t)) ((F t).2.2.2) T n z wtc wia off) H := hP
          have hD : va_D A (wX0 cA h0 q0 q1 q2 q3 q4 q5 w ce nm (upd ((F t).2.1) ((F t).1) (((F t).2.1) t)) (upd ((F t).2.2.1) ((F t).1) (((F t).2.2.1) t)) ((F t).2.2.2) T n z wtc wia off) := hD
          refine lv_aload_n hx hb dX0_foldLevel_96 rfl (lv_at hl 0 rfl) ?_
          refine va_get (D := (dC, dI)) (ci := 0) (v := .ref q5) (C := RX0) (T := TX0) (N := 12) hx hb hts hin hown hK hP 0 rfl rfl 5 (by decide) (hts (.fieldLink RX0 25 "NestCells" "traceWas" "[I") (by decide +kernel)) (fun _ h9 => h9) rfl dX0_foldLevel_97 ?_
          refine lv_iload_n hx hb dX0_foldLevel_100 rfl (lv_at hl 3 rfl) ?_
          refine lv_aload_n hx hb dX0_foldLevel_101 rfl (lv_at hl 0 rfl) ?_
          refine va_get (D := (dC, dI)) (ci := 0) (v := .ref q5) (C := RX0) (T := TX0) (N := 12) hx hb hts hin hown hK hP 0 rfl rfl 5 (by decide) (hts (.fieldLink RX0 25 "NestCells" "traceWas" "[I") (by decide +kernel)) (fun _ h9 => h9) rfl dX0_foldLevel_102 ?_
          refine lv_iload hx hb dX0_foldLevel_105 (lv_at hl 4 rfl) ?_
          refine kv_iald hx hb hK hP 6 0 rfl rfl (by omega) (by omega) dX0_foldLevel_107 ?_
          refine kv_iast hx hb hK hP hD hS 6 0 rfl rfl (by omega) (by omega) dX0_foldLevel_108 (fun H locs hP hD hS => ?_)
          have hP : va_P (dC, dI) vwCl (wX0 cA h0 q0 q1 q2 q3 q4 q5 w ce nm (upd ((F t).2.1) ((F t).1) (((F t).2.1) t)) (upd ((F t).2.2.1) ((F t).1) (((F t).2.2.1) t)) (upd ((F t).2.2.2) ((F t).1) (((F t).2.2.2) t)) T n z wtc wia off) H := hP
          have hD : va_D A (wX0 cA h0 q0 q1 q2 q3 q4 q5 w ce nm (upd ((F t).2.1) ((F t).1) (((F t).2.1) t)) (upd ((F t).2.2.1) ((F t).1) (((F t).2.2.1) t)) (upd ((F t).2.2.2) ((F t).1) (((F t).2.2.2) t)) T n z wtc wia off) := hD
          refine lv_iinc (v := (nI (((F t).1) + 1))) (lv' := [(3, .int (nI (((F t).1) + 1))), (0, .ref h0), (1, .int (nI lev)), (2, .int (kx_tc tl tc (nI (lev - 1)) z)), (4, .int (nI t))]) hx hb dX0_foldLevel_109 hl (k := 3) rfl (kv_inc _ 1 (by decide)) (by decide) rfl (fun ls hl => ?_)
          refine lv_iinc (v := (nI (t + 1))) (lv' := [(4, .int (nI (t + 1))), (3, .int (nI (((F t).1) + 1))), (0, .ref h0), (1, .int (nI lev)), (2, .int (kx_tc tl tc (nI (lev - 1)) z))]) hx hb dX0_foldLevel_112 hl (k := 4) rfl (kv_inc _ 1 (by decide)) (by decide) rfl (fun ls hl => ?_)
          refine lv_goto (tgt := 13) hx hb dX0_foldLevel_115 (by decide) ?_
          have e1 : F (t + 1) = ((F t).1 + 1, upd ((F t).2.1) ((F t).1) (((F t).2.1) t), upd ((F t).2.2.1) ((F t).1) (((F t).2.2.1) t), upd ((F t).2.2.2) ((F t).1) (((F t).2.2.2) t)) := by rw [hFs, if_neg (fun q => h30_0 q.1), if_neg h60_1]
          have hP : va_P (dC, dI) vwCl (wX0 cA h0 q0 q1 q2 q3 q4 q5 w ce nm ((F (t + 1)).2.1) ((F (t + 1)).2.2.1) ((F (t + 1)).2.2.2) T n z wtc wia off) H := by rw [e1]; exact hP
          have hD : va_D A (wX0 cA h0 q0 q1 q2 q3 q4 q5 w ce nm ((F (t + 1)).2.1) ((F (t + 1)).2.2.1) ((F (t + 1)).2.2.2) T n z wtc wia off) := by rw [e1]; exact hD
          have hl : lv_has ls 5 [(4, .int (nI (t + 1))), (3, .int (nI ((F (t + 1)).1))), (0, .ref h0), (1, .int (nI lev)), (2, .int (kx_tc tl tc (nI (lev - 1)) z))] := by rw [e1]; exact hl
          exact ih (t + 1) (by omega) _ _ _ hP hD hS (lv_sub hl [2, 3, 4, 1, 0] rfl)
      · skip
        refine lv_iload_n hx hb dX0_foldLevel_33 rfl (lv_at hl 2 rfl) ?_
        refine lv_aload_n hx hb dX0_foldLevel_34 rfl (lv_at hl 0 rfl) ?_
        refine va_get (D := (dC, dI)) (ci := 0) (v := .ref q4) (C := RX0) (T := TX0) (N := 12) hx hb hts hin hown hK hP 0 rfl rfl 4 (by decide) (hts (.fieldLink RX0 22 "NestCells" "traceCell" "[I") (by decide +kernel)) (fun _ h9 => h9) rfl dX0_foldLevel_35 ?_
        refine lv_iload hx hb dX0_foldLevel_38 (lv_at hl 4 rfl) ?_
        refine kv_iald hx hb hK hP 5 0 rfl rfl (by omega) (by omega) dX0_foldLevel_40 ?_
        refine kv_Si (Xr := wX0 cA h0 q0 q1 q2 q3 q4 q5 w ce nm ((F t).2.1) ((F t).2.2.1) ((F t).2.2.2) T n z wtc wia off) (n := 2) (c_X0_holds l dC dI   (kx_tc tl tc (nI (lev - 1)) z) (((F t).2.2.1) t) ) hx hb hml hown hts gX0_foldLevel_X0_holds rfl ⟨rfl, rfl⟩ (by decide +kernel) rfl ⟨Nat.le_of_ble_eq_true rfl, Nat.le_of_ble_eq_true rfl⟩ hK hP hD hS hA [] [] [0, 1, 2, 3, 4, 5, 6] rfl rfl rfl (by decide) (by decide) rfl (by decide) hl.1 rfl (Nat.le_of_ble_eq_true rfl) dX0_foldLevel_41 ⟨Nat.zero_le _, Nat.zero_le _⟩ (fun H locs hP hD hS => ?_)
        have hP : va_P (dC, dI) vwCl (wX0 cA h0 q0 q1 q2 q3 q4 q5 w ce nm ((F t).2.1) ((F t).2.2.1) ((F t).2.2.2) T n z wtc wia off) H := hP
        have hD : va_D A (wX0 cA h0 q0 q1 q2 q3 q4 q5 w ce nm ((F t).2.1) ((F t).2.2.1) ((F t).2.2.2) T n z wtc wia off) := hD
        refine lv_if_ne (tgt := 112) hx hb dX0_foldLevel_44 (by decide) (fun h44_1 => ?_) (fun h44_1 => ?_)
        · skip
          refine lv_iinc (v := (nI (t + 1))) (lv' := [(4, .int (nI (t + 1))), (0, .ref h0), (1, .int (nI lev)), (2, .int (kx_tc tl tc (nI (lev - 1)) z)), (3, .int (nI ((F t).1)))]) hx hb dX0_foldLevel_112 hl (k := 4) rfl (kv_inc _ 1 (by decide)) (by decide) rfl (fun ls hl => ?_)
          refine lv_goto (tgt := 13) hx hb dX0_foldLevel_115 (by decide) ?_
          have e1 : F (t + 1) = F t := by rw [hFs, if_pos ⟨h30_0, h44_1⟩]
          have hP : va_P (dC, dI) vwCl (wX0 cA h0 q0 q1 q2 q3 q4 q5 w ce nm ((F (t + 1)).2.1) ((F (t + 1)).2.2.1) ((F (t + 1)).2.2.2) T n z wtc wia off) H := by rw [e1]; exact hP
          have hD : va_D A (wX0 cA h0 q0 q1 q2 q3 q4 q5 w ce nm ((F (t + 1)).2.1) ((F (t + 1)).2.2.1) ((F (t + 1)).2.2.2) T n z wtc wia off) := by rw [e1]; exact hD
          have hl : lv_has ls 5 [(4, .int (nI (t + 1))), (0, .ref h0), (1, .int (nI lev)), (2, .int (kx_tc tl tc (nI (lev - 1)) z)), (3, .int (nI ((F (t + 1)).1)))] := by rw [e1]; exact hl
          exact ih (t + 1) (by omega) _ _ _ hP hD hS (lv_sub hl [1, 2, 3, 4, 0] rfl)
        · skip
          refine lv_aload_n hx hb dX0_foldLevel_47 rfl (lv_at hl 0 rfl) ?_
          refine va_get (D := (dC, dI)) (ci := 0) (v := .ref q3) (C := RX0) (T := TX0) (N := 12) hx hb hts hin hown hK hP 0 rfl rfl 3 (by decide) (hts (.fieldLink RX0 19 "NestCells" "traceLevel" "[I") (by decide +kernel)) (fun _ h9 => h9) rfl dX0_foldLevel_48 ?_
          refine lv_iload_n hx hb dX0_foldLevel_51 rfl (lv_at hl 3 rfl) ?_
          refine lv_aload_n hx hb dX0_foldLevel_52 rfl (lv_at hl 0 rfl) ?_
          refine va_get (D := (dC, dI)) (ci := 0) (v := .ref q3) (C := RX0) (T := TX0) (N := 12) hx hb hts hin hown hK hP 0 rfl rfl 3 (by decide) (hts (.fieldLink RX0 19 "NestCells" "traceLevel" "[I") (by decide +kernel)) (fun _ h9 => h9) rfl dX0_foldLevel_53 ?_
          refine lv_iload hx hb dX0_foldLevel_56 (lv_at hl 4 rfl) ?_
          refine kv_iald hx hb hK hP 4 0 rfl rfl (by omega) (by omega) dX0_foldLevel_58 ?_
          refine lv_iload_n hx hb dX0_foldLevel_59 rfl (lv_at hl 1 rfl) ?_
          refine lv_icmp_ge (tgt := 73) hx hb dX0_foldLevel_60 (by decide) (fun h60_2 => ?_) (fun h60_2 => ?_)
          · skip
            refine lv_aload_n hx hb dX0_foldLevel_73 rfl (lv_at hl 0 rfl) ?_
            refine va_get (D := (dC, dI)) (ci := 0) (v := .ref q3) (C := RX0) (T := TX0) (N := 12) hx hb hts hin hown hK hP 0 rfl rfl 3 (by decide) (hts (.fieldLink RX0 19 "NestCells" "traceLevel" "[I") (by decide +kernel)) (fun _ h9 => h9) rfl dX0_foldLevel_74 ?_
            refine lv_iload hx hb dX0_foldLevel_77 (lv_at hl 4 rfl) ?_
            refine kv_iald hx hb hK hP 4 0 rfl rfl (by omega) (by omega) dX0_foldLevel_79 ?_
            refine lv_iconst (v := (nI 1)) hx hb dX0_foldLevel_80 (by decide) ?_
            refine lv_isub hx hb dX0_foldLevel_81 ?_
            refine kv_iast hx hb hK hP hD hS 4 0 rfl rfl (by omega) (by omega) dX0_foldLevel_82 (fun H locs hP hD hS => ?_)
            have hP : va_P (dC, dI) vwCl (wX0 cA h0 q0 q1 q2 q3 q4 q5 w ce nm (upd ((F t).2.1) ((F t).1) ((((F t).2.1) t) - (nI 1))) ((F t).2.2.1) ((F t).2.2.2) T n z wtc wia off) H := hP
            have hD : va_D A (wX0 cA h0 q0 q1 q2 q3 q4 q5 w ce nm (upd ((F t).2.1) ((F t).1) ((((F t).2.1) t) - (nI 1))) ((F t).2.2.1) ((F t).2.2.2) T n z wtc wia off) := hD
            refine lv_aload_n hx hb dX0_foldLevel_83 rfl (lv_at hl 0 rfl) ?_
            refine va_get (D := (dC, dI)) (ci := 0) (v := .ref q4) (C := RX0) (T := TX0) (N := 12) hx hb hts hin hown hK hP 0 rfl rfl 4 (by decide) (hts (.fieldLink RX0 22 "NestCells" "traceCell" "[I") (by decide +kernel)) (fun _ h9 => h9) rfl dX0_foldLevel_84 ?_
            refine lv_iload_n hx hb dX0_foldLevel_87 rfl (lv_at hl 3 rfl) ?_
            refine lv_aload_n hx hb dX0_foldLevel_88 rfl (lv_at hl 0 rfl) ?_
            refine va_get (D := (dC, dI)) (ci := 0) (v := .ref q4) (C := RX0) (T := TX0) (N := 12) hx hb hts hin hown hK hP 0 rfl rfl 4 (by decide) (hts (.fieldLink RX0 22 "NestCells" "traceCell" "[I") (by decide +kernel)) (fun _ h9 => h9) rfl dX0_foldLevel_89 ?_
            refine lv_iload hx hb dX0_foldLevel_92 (lv_at hl 4 rfl) ?_
            refine kv_iald hx hb hK hP 5 0 rfl rfl (by omega) (by omega) dX0_foldLevel_94 ?_
            refine kv_iast hx hb hK hP hD hS 5 0 rfl rfl (by omega) (by omega) dX0_foldLevel_95 (fun H locs hP hD hS => ?_)
            have hP : va_P (dC, dI) vwCl (wX0 cA h0 q0 q1 q2 q3 q4 q5 w ce nm (upd ((F t).2.1) ((F t).1) ((((F t).2.1) t) - (nI 1))) (upd ((F t).2.2.1) ((F t).1) (((F t).2.2.1) t)) ((F t).2.2.2) T n z wtc wia off) H := hP
            have hD : va_D A (wX0 cA h0 q0 q1 q2 q3 q4 q5 w ce nm (upd ((F t).2.1) ((F t).1) ((((F t).2.1) t) - (nI 1))) (upd ((F t).2.2.1) ((F t).1) (((F t).2.2.1) t)) ((F t).2.2.2) T n z wtc wia off) := hD
            refine lv_aload_n hx hb dX0_foldLevel_96 rfl (lv_at hl 0 rfl) ?_
            refine va_get (D := (dC, dI)) (ci := 0) (v := .ref q5) (C := RX0) (T := TX0) (N := 12) hx hb hts hin hown hK hP 0 rfl rfl 5 (by decide) (hts (.fieldLink RX0 25 "NestCells" "traceWas" "[I") (by decide +kernel)) (fun _ h9 => h9) rfl dX0_foldLevel_97 ?_
            refine lv_iload_n hx hb dX0_foldLevel_100 rfl (lv_at hl 3 rfl) ?_
            refine lv_aload_n hx hb dX0_foldLevel_101 rfl (lv_at hl 0 rfl) ?_
            refine va_get (D := (dC, dI)) (ci := 0) (v := .ref q5) (C := RX0) (T := TX0) (N := 12) hx hb hts hin hown hK hP 0 rfl rfl 5 (by decide) (hts (.fieldLink RX0 25 "NestCells" "traceWas" "[I") (by decide +kernel)) (fun _ h9 => h9) rfl dX0_foldLevel_102 ?_
            refine lv_iload hx hb dX0_foldLevel_105 (lv_at hl 4 rfl) ?_
            refine kv_iald hx hb hK hP 6 0 rfl rfl (by omega) (by omega) dX0_foldLevel_107 ?_
            refine kv_iast hx hb hK hP hD hS 6 0 rfl rfl (by omega) (by omega) dX0_foldLevel_108 (fun H locs hP hD hS => ?_)
            have hP : va_P (dC, dI) vwCl (wX0 cA h0 q0 q1 q2 q3 q4 q5 w ce nm (upd ((F t).2.1) ((F t).1) ((((F t).2.1) t) - (nI 1))) (upd ((F t).2.2.1) ((F t).1) (((F t).2.2.1) t)) (upd ((F t).2.2.2) ((F t).1) (((F t).2.2.2) t)) T n z wtc wia off) H := hP
            have hD : va_D A (wX0 cA h0 q0 q1 q2 q3 q4 q5 w ce nm (upd ((F t).2.1) ((F t).1) ((((F t).2.1) t) - (nI 1))) (upd ((F t).2.2.1) ((F t).1) (((F t).2.2.1) t)) (upd ((F t).2.2.2) ((F t).1) (((F t).2.2.2) t)) T n z wtc wia off) := hD
            refine lv_iinc (v := (nI (((F t).1) + 1))) (lv' := [(3, .int (nI (((F t).1) + 1))), (0, .ref h0), (1, .int (nI lev)), (2, .int (kx_tc tl tc (nI (lev - 1)) z)), (4, .int (nI t))]) hx hb dX0_foldLevel_109 hl (k := 3) rfl (kv_inc _ 1 (by decide)) (by decide) rfl (fun ls hl => ?_)
            refine lv_iinc (v := (nI (t + 1))) (lv' := [(4, .int (nI (t + 1))), (3, .int (nI (((F t).1) + 1))), (0, .ref h0), (1, .int (nI lev)), (2, .int (kx_tc tl tc (nI (lev - 1)) z))]) hx hb dX0_foldLevel_112 hl (k := 4) rfl (kv_inc _ 1 (by decide)) (by decide) rfl (fun ls hl => ?_)
            refine lv_goto (tgt := 13) hx hb dX0_foldLevel_115 (by decide) ?_
            have e1 : F (t + 1) = ((F t).1 + 1, upd ((F t).2.1) ((F t).1) ((((F t).2.1) t) - (nI 1)), upd ((F t).2.2.1) ((F t).1) (((F t).2.2.1) t), upd ((F t).2.2.2) ((F t).1) (((F t).2.2.2) t)) := by rw [hFs, if_neg (fun q => q.2 h44_1), if_pos h60_2]
            have hP : va_P (dC, dI) vwCl (wX0 cA h0 q0 q1 q2 q3 q4 q5 w ce nm ((F (t + 1)).2.1) ((F (t + 1)).2.2.1) ((F (t + 1)).2.2.2) T n z wtc wia off) H := by rw [e1]; exact hP
            have hD : va_D A (wX0 cA h0 q0 q1 q2 q3 q4 q5 w ce nm ((F (t + 1)).2.1) ((F (t + 1)).2.2.1) ((F (t + 1)).2.2.2) T n z wtc wia off) := by rw [e1]; exact hD
            have hl : lv_has ls 5 [(4, .int (nI (t + 1))), (3, .int (nI ((F (t + 1)).1))), (0, .ref h0), (1, .int (nI lev)), (2, .int (kx_tc tl tc (nI (lev - 1)) z))] := by rw [e1]; exact hl
            exact ih (t + 1) (by omega) _ _ _ hP hD hS (lv_sub hl [2, 3, 4, 1, 0] rfl)
          · skip
            refine lv_aload_n hx hb dX0_foldLevel_63 rfl (lv_at hl 0 rfl) ?_
            refine va_get (D := (dC, dI)) (ci := 0) (v := .ref q3) (C := RX0) (T := TX0) (N := 12) hx hb hts hin hown hK hP 0 rfl rfl 3 (by decide) (hts (.fieldLink RX0 19 "NestCells" "traceLevel" "[I") (by decide +kernel)) (fun _ h9 => h9) rfl dX0_foldLevel_64 ?_
            refine lv_iload hx hb dX0_foldLevel_67 (lv_at hl 4 rfl) ?_
            refine kv_iald hx hb hK hP 4 0 rfl rfl (by omega) (by omega) dX0_foldLevel_69 ?_
            refine lv_goto (tgt := 82) hx hb dX0_foldLevel_70 (by decide) ?_
            refine kv_iast hx hb hK hP hD hS 4 0 rfl rfl (by omega) (by omega) dX0_foldLevel_82 (fun H locs hP hD hS => ?_)
            have hP : va_P (dC, dI) vwCl (wX0 cA h0 q0 q1 q2 q3 q4 q5 w ce nm (upd ((F t).2.1) ((F t).1) (((F t).2.1) t)) ((F t).2.2.1) ((F t).2.2.2) T n z wtc wia off) H := hP
            have hD : va_D A (wX0 cA h0 q0 q1 q2 q3 q4 q5 w ce nm (upd ((F t).2.1) ((F t).1) (((F t).2.1) t)) ((F t).2.2.1) ((F t).2.2.2) T n z wtc wia off) := hD
            refine lv_aload_n hx hb dX0_foldLevel_83 rfl (lv_at hl 0 rfl) ?_
            refine va_get (D := (dC, dI)) (ci := 0) (v := .ref q4) (C := RX0) (T := TX0) (N := 12) hx hb hts hin hown hK hP 0 rfl rfl 4 (by decide) (hts (.fieldLink RX0 22 "NestCells" "traceCell" "[I") (by decide +kernel)) (fun _ h9 => h9) rfl dX0_foldLevel_84 ?_
            refine lv_iload_n hx hb dX0_foldLevel_87 rfl (lv_at hl 3 rfl) ?_
            refine lv_aload_n hx hb dX0_foldLevel_88 rfl (lv_at hl 0 rfl) ?_
            refine va_get (D := (dC, dI)) (ci := 0) (v := .ref q4) (C := RX0) (T := TX0) (N := 12) hx hb hts hin hown hK hP 0 rfl rfl 4 (by decide) (hts (.fieldLink RX0 22 "NestCells" "traceCell" "[I") (by decide +kernel)) (fun _ h9 => h9) rfl dX0_foldLevel_89 ?_
            refine lv_iload hx hb dX0_foldLevel_92 (lv_at hl 4 rfl) ?_
            refine kv_iald hx hb hK hP 5 0 rfl rfl (by omega) (by omega) dX0_foldLevel_94 ?_
            refine kv_iast hx hb hK hP hD hS 5 0 rfl rfl (by omega) (by omega) dX0_foldLevel_95 (fun H locs hP hD hS => ?_)
            have hP : va_P (dC, dI) vwCl (wX0 cA h0 q0 q1 q2 q3 q4 q5 w ce nm (upd ((F t).2.1) ((F t).1) (((F t).2.1) t)) (upd ((F t).2.2.1) ((F t).1) (((F t).2.2.1) t)) ((F t).2.2.2) T n z wtc wia off) H := hP
            have hD : va_D A (wX0 cA h0 q0 q1 q2 q3 q4 q5 w ce nm (upd ((F t).2.1) ((F t).1) (((F t).2.1) t)) (upd ((F t).2.2.1) ((F t).1) (((F t).2.2.1) t)) ((F t).2.2.2) T n z wtc wia off) := hD
            refine lv_aload_n hx hb dX0_foldLevel_96 rfl (lv_at hl 0 rfl) ?_
            refine va_get (D := (dC, dI)) (ci := 0) (v := .ref q5) (C := RX0) (T := TX0) (N := 12) hx hb hts hin hown hK hP 0 rfl rfl 5 (by decide) (hts (.fieldLink RX0 25 "NestCells" "traceWas" "[I") (by decide +kernel)) (fun _ h9 => h9) rfl dX0_foldLevel_97 ?_
            refine lv_iload_n hx hb dX0_foldLevel_100 rfl (lv_at hl 3 rfl) ?_
            refine lv_aload_n hx hb dX0_foldLevel_101 rfl (lv_at hl 0 rfl) ?_
            refine va_get (D := (dC, dI)) (ci := 0) (v := .ref q5) (C := RX0) (T := TX0) (N := 12) hx hb hts hin hown hK hP 0 rfl rfl 5 (by decide) (hts (.fieldLink RX0 25 "NestCells" "traceWas" "[I") (by decide +kernel)) (fun _ h9 => h9) rfl dX0_foldLevel_102 ?_
            refine lv_iload hx hb dX0_foldLevel_105 (lv_at hl 4 rfl) ?_
            refine kv_iald hx hb hK hP 6 0 rfl rfl (by omega) (by omega) dX0_foldLevel_107 ?_
            refine kv_iast hx hb hK hP hD hS 6 0 rfl rfl (by omega) (by omega) dX0_foldLevel_108 (fun H locs hP hD hS => ?_)
            have hP : va_P (dC, dI) vwCl (wX0 cA h0 q0 q1 q2 q3 q4 q5 w ce nm (upd ((F t).2.1) ((F t).1) (((F t).2.1) t)) (upd ((F t).2.2.1) ((F t).1) (((F t).2.2.1) t)) (upd ((F t).2.2.2) ((F t).1) (((F t).2.2.2) t)) T n z wtc wia off) H := hP
            have hD : va_D A (wX0 cA h0 q0 q1 q2 q3 q4 q5 w ce nm (upd ((F t).2.1) ((F t).1) (((F t).2.1) t)) (upd ((F t).2.2.1) ((F t).1) (((F t).2.2.1) t)) (upd ((F t).2.2.2) ((F t).1) (((F t).2.2.2) t)) T n z wtc wia off) := hD
            refine lv_iinc (v := (nI (((F t).1) + 1))) (lv' := [(3, .int (nI (((F t).1) + 1))), (0, .ref h0), (1, .int (nI lev)), (2, .int (kx_tc tl tc (nI (lev - 1)) z)), (4, .int (nI t))]) hx hb dX0_foldLevel_109 hl (k := 3) rfl (kv_inc _ 1 (by decide)) (by decide) rfl (fun ls hl => ?_)
            refine lv_iinc (v := (nI (t + 1))) (lv' := [(4, .int (nI (t + 1))), (3, .int (nI (((F t).1) + 1))), (0, .ref h0), (1, .int (nI lev)), (2, .int (kx_tc tl tc (nI (lev - 1)) z))]) hx hb dX0_foldLevel_112 hl (k := 4) rfl (kv_inc _ 1 (by decide)) (by decide) rfl (fun ls hl => ?_)
            refine lv_goto (tgt := 13) hx hb dX0_foldLevel_115 (by decide) ?_
            have e1 : F (t + 1) = ((F t).1 + 1, upd ((F t).2.1) ((F t).1) (((F t).2.1) t), upd ((F t).2.2.1) ((F t).1) (((F t).2.2.1) t), upd ((F t).2.2.2) ((F t).1) (((F t).2.2.2) t)) := by rw [hFs, if_neg (fun q => q.2 h44_1), if_neg h60_2]
            have hP : va_P (dC, dI) vwCl (wX0 cA h0 q0 q1 q2 q3 q4 q5 w ce nm ((F (t + 1)).2.1) ((F (t + 1)).2.2.1) ((F (t + 1)).2.2.2) T n z wtc wia off) H := by rw [e1]; exact hP
            have hD : va_D A (wX0 cA h0 q0 q1 q2 q3 q4 q5 w ce nm ((F (t + 1)).2.1) ((F (t + 1)).2.2.1) ((F (t + 1)).2.2.2) T n z wtc wia off) := by rw [e1]; exact hD
            have hl : lv_has ls 5 [(4, .int (nI (t + 1))), (3, .int (nI ((F (t + 1)).1))), (0, .ref h0), (1, .int (nI lev)), (2, .int (kx_tc tl tc (nI (lev - 1)) z))] := by rw [e1]; exact hl
            exact ih (t + 1) (by omega) _ _ _ hP hD hS (lv_sub hl [2, 3, 4, 1, 0] rfl)
  exact lp z 0 (by omega) _ _ _ hP hD hS (lv_sub hl [3, 4, 2, 1, 0] rfl)
set_option maxHeartbeats 4000000 in
set_option maxRecDepth 100000 in
/-- NestCells.putWord  -/
theorem c_X0_putWord (l : Launch) (dC : Nat → ClassId) (dI : Nat → Nat → Nat) (cA : ClassId) (h0 q0 q1 q2 q3 q4 q5 : Nat) (w ce nm tl tc tw : Nat → Int32) (T n z : Nat) (wtc wia off : Int32) (i : Nat) (v : Int32) (hi : i < 98) : kMv l yX0_putWord wsX0_putWord ({ frames := 0, cells := 0, slots := 0, locals := 0 }) dC dI [(cA, .int)] (wX0 cA h0 q0 q1 q2 q3 q4 q5 w ce nm tl tc tw T n z wtc wia off) [.ref h0, .int (nI i), .int v] (wX0 cA h0 q0 q1 q2 q3 q4 q5 ((kx_pw (w, wtc, wia, off) i v).1) ce nm tl tc tw T n z ((kx_pw (w, wtc, wia, off) i v).2.1) ((kx_pw (w, wtc, wia, off) i v).2.2.1) ((kx_pw (w, wtc, wia, off) i v).2.2.2)) := by
  refine kMv_of (cc := cX0_putWord) (maxL := 3) (ret := none) (by decide) rfl (Nat.le_of_ble_eq_true rfl) ?_
  intro p e s m below meth c A ls hx hb hml hr hts hown hlocks hA hP hK hD hS hl
  have hin : ∀ w ∈ u_ws RX0 TX0 12, w ∈ wsX0_putWord := by decide +kernel
  have hl : lv_has ls 3 [(0, .ref h0), (1, .int (nI i)), (2, .int v)] := hl
  refine lv_aload_n hx hb dX0_putWord_0 rfl (lv_at hl 0 rfl) ?_
  refine va_get (D := (dC, dI)) (ci := 0) (v := .int off) (C := RX0) (T := TX0) (N := 12) hx hb hts hin hown hK hP 0 rfl rfl 11 (by decide) (hts (.fieldLink RX0 44 "NestCells" "off" "Z") (by decide +kernel)) (fun _ h9 => h9) rfl dX0_putWord_1 ?_
  refine lv_if_eq (tgt := 8) hx hb dX0_putWord_4 (by decide) (fun h4_0 => ?_) (fun h4_0 => ?_)
  · skip
    refine lv_aload_n hx hb dX0_putWord_8 rfl (lv_at hl 0 rfl) ?_
    refine va_get (D := (dC, dI)) (ci := 0) (v := .int wtc) (C := RX0) (T := TX0) (N := 12) hx hb hts hin hown hK hP 0 rfl rfl 9 (by decide) (hts (.fieldLink RX0 37 "NestCells" "writesTillCrash" "I") (by decide +kernel)) (fun _ h9 => h9) rfl dX0_putWord_9 ?_
    refine lv_iconst (v := (nI 1)) hx hb dX0_putWord_12 (by decide) ?_
    refine lv_icmp_ne (tgt := 27) hx hb dX0_putWord_13 (by decide) (fun h13_1 => ?_) (fun h13_1 => ?_)
    · skip
      refine lv_aload_n hx hb dX0_putWord_27 rfl (lv_at hl 0 rfl) ?_
      refine va_get (D := (dC, dI)) (ci := 0) (v := .int wtc) (C := RX0) (T := TX0) (N := 12) hx hb hts hin hown hK hP 0 rfl rfl 9 (by decide) (hts (.fieldLink RX0 37 "NestCells" "writesTillCrash" "I") (by decide +kernel)) (fun _ h9 => h9) rfl dX0_putWord_28 ?_
      refine lv_iconst (v := (nI 1)) hx hb dX0_putWord_31 (by decide) ?_
      refine lv_icmp_le (tgt := 45) hx hb dX0_putWord_32 (by decide) (fun h32_2 => ?_) (fun h32_2 => ?_)
      · skip
        refine lv_aload_n hx hb dX0_putWord_45 rfl (lv_at hl 0 rfl) ?_
        refine va_get (D := (dC, dI)) (ci := 0) (v := .ref q0) (C := RX0) (T := TX0) (N := 12) hx hb hts hin hown hK hP 0 rfl rfl 0 (by decide) (hts (.fieldLink RX0 9 "NestCells" "words" "[I") (by decide +kernel)) (fun _ h9 => h9) rfl dX0_putWord_46 ?_
        refine lv_iload_n hx hb dX0_putWord_49 rfl (lv_at hl 1 rfl) ?_
        refine lv_iload_n hx hb dX0_putWord_50 rfl (lv_at hl 2 rfl) ?_
        refine kv_iast hx hb hK hP hD hS 1 0 rfl rfl (by omega) (by omega) dX0_putWord_51 (fun H locs hP hD hS => ?_)
        have hP : va_P (dC, dI) vwCl (wX0 cA h0 q0 q1 q2 q3 q4 q5 (upd w i v) ce nm tl tc tw T n z wtc wia off) H := hP
        have hD : va_D A (wX0 cA h0 q0 q1 q2 q3 q4 q5 (upd w i v) ce nm tl tc tw T n z wtc wia off) := hD
        refine lv_aload_n hx hb dX0_putWord_52 rfl (lv_at hl 0 rfl) ?_
        refine lv_dup hx hb dX0_putWord_53 rfl ?_
        refine va_get (D := (dC, dI)) (ci := 0) (v := .int wia) (C := RX0) (T := TX0) (N := 12) hx hb hts hin hown hK hP 0 rfl rfl 10 (by decide) (hts (.fieldLink RX0 41 "NestCells" "writesInAll" "I") (by decide +kernel)) (fun _ h9 => h9) rfl dX0_putWord_54 ?_
        refine lv_iconst (v := (nI 1)) hx hb dX0_putWord_57 (by decide) ?_
        refine lv_iadd hx hb dX0_putWord_58 ?_
        refine va_put (D := (dC, dI)) (ci := 0) (v := .int (wia + (nI 1))) (ty := .int) (C := RX0) (T := TX0) (N := 12) hx hb hts hin tyX0 tyX0_ok nmX0 hown hK hP hD hS 0 rfl rfl 10 (by decide) (hts (.fieldLink RX0 41 "NestCells" "writesInAll" "I") (by decide +kernel)) (fun _ h9 => h9) rfl (by decide +kernel) rfl rfl (Nat.le_of_ble_eq_true rfl) dX0_putWord_59 (fun H locs hP hD hS => ?_)
        have hP : va_P (dC, dI) vwCl (wX0 cA h0 q0 q1 q2 q3 q4 q5 (upd w i v) ce nm tl tc tw T n z wtc (wia + (nI 1)) off) H := hP
        have hD : va_D A (wX0 cA h0 q0 q1 q2 q3 q4 q5 (upd w i v) ce nm tl tc tw T n z wtc (wia + (nI 1)) off) := hD
        exact kMv_ret hx hb hr hlocks hP hK hD hS dX0_putWord_62 (by simp [kx_pw, h4_0, h13_1, h32_2])
      · skip
        refine lv_aload_n hx hb dX0_putWord_35 rfl (lv_at hl 0 rfl) ?_
        refine lv_dup hx hb dX0_putWord_36 rfl ?_
        refine va_get (D := (dC, dI)) (ci := 0) (v := .int wtc) (C := RX0) (T := TX0) (N := 12) hx hb hts hin hown hK hP 0 rfl rfl 9 (by decide) (hts (.fieldLink RX0 37 "NestCells" "writesTillCrash" "I") (by decide +kernel)) (fun _ h9 => h9) rfl dX0_putWord_37 ?_
        refine lv_iconst (v := (nI 1)) hx hb dX0_putWord_40 (by decide) ?_
        refine lv_isub hx hb dX0_putWord_41 ?_
        refine va_put (D := (dC, dI)) (ci := 0) (v := .int (wtc - (nI 1))) (ty := .int) (C := RX0) (T := TX0) (N := 12) hx hb hts hin tyX0 tyX0_ok nmX0 hown hK hP hD hS 0 rfl rfl 9 (by decide) (hts (.fieldLink RX0 37 "NestCells" "writesTillCrash" "I") (by decide +kernel)) (fun _ h9 => h9) rfl (by decide +kernel) rfl rfl (Nat.le_of_ble_eq_true rfl) dX0_putWord_42 (fun H locs hP hD hS => ?_)
        have hP : va_P (dC, dI) vwCl (wX0 cA h0 q0 q1 q2 q3 q4 q5 w ce nm tl tc tw T n z (wtc - (nI 1)) wia off) H := hP
        have hD : va_D A (wX0 cA h0 q0 q1 q2 q3 q4 q5 w ce nm tl tc tw T n z (wtc - (nI 1)) wia off) := hD
        refine lv_aload_n hx hb dX0_putWord_45 rfl (lv_at hl 0 rfl) ?_
        refine va_get (D := (dC, dI)) (ci := 0) (v := .ref q0) (C := RX0) (T := TX0) (N := 12) hx hb hts hin hown hK hP 0 rfl rfl 0 (by decide) (hts (.fieldLink RX0 9 "NestCells" "words" "[I") (by decide +kernel)) (fun _ h9 => h9) rfl dX0_putWord_46 ?_
        refine lv_iload_n hx hb dX0_putWord_49 rfl (lv_at hl 1 rfl) ?_
        refine lv_iload_n hx hb dX0_putWord_50 rfl (lv_at hl 2 rfl) ?_
        refine kv_iast hx hb hK hP hD hS 1 0 rfl rfl (by omega) (by omega) dX0_putWord_51 (fun H locs hP hD hS => ?_)
        have hP : va_P (dC, dI) vwCl (wX0 cA h0 q0 q1 q2 q3 q4 q5 (upd w i v) ce nm tl tc tw T n z (wtc - (nI 1)) wia off) H := hP
        have hD : va_D A (wX0 cA h0 q0 q1 q2 q3 q4 q5 (upd w i v) ce nm tl tc tw T n z (wtc - (nI 1)) wia off) := hD
        refine lv_aload_n hx hb dX0_putWord_52 rfl (lv_at hl 0 rfl) ?_
        refine lv_dup hx hb dX0_putWord_53 rfl ?_
        refine va_get (D := (dC, dI)) (ci := 0) (v := .int wia) (C := RX0) (T := TX0) (N := 12) hx hb hts hin hown hK hP 0 rfl rfl 10 (by decide) (hts (.fieldLink RX0 41 "NestCells" "writesInAll" "I") (by decide +kernel)) (fun _ h9 => h9) rfl dX0_putWord_54 ?_
        refine lv_iconst (v := (nI 1)) hx hb dX0_putWord_57 (by decide) ?_
        refine lv_iadd hx hb dX0_putWord_58 ?_
        refine va_put (D := (dC, dI)) (ci := 0) (v := .int (wia + (nI 1))) (ty := .int) (C := RX0) (T := TX0) (N := 12) hx hb hts hin tyX0 tyX0_ok nmX0 hown hK hP hD hS 0 rfl rfl 10 (by decide) (hts (.fieldLink RX0 41 "NestCells" "writesInAll" "I") (by decide +kernel)) (fun _ h9 => h9) rfl (by decide +kernel) rfl rfl (Nat.le_of_ble_eq_true rfl) dX0_putWord_59 (fun H locs hP hD hS => ?_)
        have hP : va_P (dC, dI) vwCl (wX0 cA h0 q0 q1 q2 q3 q4 q5 (upd w i v) ce nm tl tc tw T n z (wtc - (nI 1)) (wia + (nI 1)) off) H := hP
        have hD : va_D A (wX0 cA h0 q0 q1 q2 q3 q4 q5 (upd w i v) ce nm tl tc tw T n z (wtc - (nI 1)) (wia + (nI 1)) off) := hD
        exact kMv_ret hx hb hr hlocks hP hK hD hS dX0_putWord_62 (by simp [kx_pw, h4_0, h13_1, h32_2])
    · skip
      refine lv_aload_n hx hb dX0_putWord_16 rfl (lv_at hl 0 rfl) ?_
      refine lv_iconst (v := (nI 0)) hx hb dX0_putWord_17 (by decide) ?_
      refine va_put (D := (dC, dI)) (ci := 0) (v := .int (nI 0)) (ty := .int) (C := RX0) (T := TX0) (N := 12) hx hb hts hin tyX0 tyX0_ok nmX0 hown hK hP hD hS 0 rfl rfl 9 (by decide) (hts (.fieldLink RX0 37 "NestCells" "writesTillCrash" "I") (by decide +kernel)) (fun _ h9 => h9) rfl (by decide +kernel) rfl rfl (Nat.le_of_ble_eq_true rfl) dX0_putWord_18 (fun H locs hP hD hS => ?_)
      have hP : va_P (dC, dI) vwCl (wX0 cA h0 q0 q1 q2 q3 q4 q5 w ce nm tl tc tw T n z (nI 0) wia off) H := hP
      have hD : va_D A (wX0 cA h0 q0 q1 q2 q3 q4 q5 w ce nm tl tc tw T n z (nI 0) wia off) := hD
      refine lv_aload_n hx hb dX0_putWord_21 rfl (lv_at hl 0 rfl) ?_
      refine lv_iconst (v := (nI 1)) hx hb dX0_putWord_22 (by decide) ?_
      refine va_put (D := (dC, dI)) (ci := 0) (v := .int (nI 1)) (ty := .boolean) (C := RX0) (T := TX0) (N := 12) hx hb hts hin tyX0 tyX0_ok nmX0 hown hK hP hD hS 0 rfl rfl 11 (by decide) (hts (.fieldLink RX0 44 "NestCells" "off" "Z") (by decide +kernel)) (fun _ h9 => h9) rfl (by decide +kernel) rfl rfl (Nat.le_of_ble_eq_true rfl) dX0_putWord_23 (fun H locs hP hD hS => ?_)
      have hP : va_P (dC, dI) vwCl (wX0 cA h0 q0 q1 q2 q3 q4 q5 w ce nm tl tc tw T n z (nI 0) wia (nI 1)) H := hP
      have hD : va_D A (wX0 cA h0 q0 q1 q2 q3 q4 q5 w ce nm tl tc tw T n z (nI 0) wia (nI 1)) := hD
      exact kMv_ret hx hb hr hlocks hP hK hD hS dX0_putWord_26 (by simp [kx_pw, h4_0, h13_1])
  · skip
    exact kMv_ret hx hb hr hlocks hP hK hD hS dX0_putWord_7 (by simp [kx_pw, h4_0])
