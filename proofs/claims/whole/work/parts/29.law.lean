/-! the law's loop: one call after the other -/
abbrev kWL (cA cL : ClassId) (h0 q0 q1 q2 q3 q4 q5 g0 r1 r2 r3 r4 r5 o0 : Nat) (fo : Nat → Int64) (w ce nm tl tc tw we wr : Nat → Int32) (T n z : Nat) (wtc wia off cd : Int32) : va_W := wX0 cA h0 q0 q1 q2 q3 q4 q5 w ce nm tl tc tw T n z wtc wia off ++ (wX1 cA g0 r1 r2 r3 r4 r5 ce w we wr nm n T cd off wtc wia ++ wO cL o0 fo)
/-- from pc on, behind j calls, with the two states alike -/
def kGo (p : Program) (l : Launch) (e : Env) (s : State) (m : MethodId) (below : List Frame) (meth : Method) (c : Code) (dC : Nat → ClassId) (dI : Nat → Nat → Nat) (b : Nat) (cA cL : ClassId) (h0 q0 q1 q2 q3 q4 q5 g0 r1 r2 r3 r4 r5 o0 : Nat) (j cells slots pc : Nat) : Prop :=
  ∀ (fo : Nat → Int64) (w ce nm tl tc tw we wr : Nat → Int32) (T n z : Nat) (wtc wia off cd : Int32), kR ce nm T n z tl tc tw we wr → ∀ (H : Heap) (locs : List Loc),
    va_P (dC, dI) vwCl (kWL cA cL h0 q0 q1 q2 q3 q4 q5 g0 r1 r2 r3 r4 r5 o0 fo w ce nm tl tc tw we wr T n z wtc wia off cd) H → va_D (fun q : Nat => s.heap.size ≤ q) (kWL cA cL h0 q0 q1 q2 q3 q4 q5 g0 r1 r2 r3 r4 r5 o0 fo w ce nm tl tc tw we wr T n z wtc wia off cd) → va_S (fun q : Nat => s.heap.size ≤ q) s.heap H locs →
    ∀ ls : Array Slot, lv_has ls 7 [(0, .ref b), (1, .ref h0), (2, .ref g0), (3, .ref o0), (4, .int (nI (3 * j)))] → W p l e room_1 s m #[Value.ref b] below meth c H locs cells slots (lw_Z below #[Value.ref b] s) (F0 m pc ls [])
theorem kv_sld {p : Program} {l : Launch} {e : Env} {R : Room} {s : State} {m : MethodId} {args : Array Value} {below : List Frame} {meth : Method} {c : Code} {H : Heap} {locs : List Loc} {cells slots : Nat} {Q : State → Prop} {cc : ByteArray} {pc : Nat} {ls : Array Slot} {rest : List Value} {A : Nat → Prop} {H0 : Heap} (hx : p.tables.exec = Jvm.exec) (hb : c.code = cc) {b L : Nat} {xs : Nat → Int32} (hX : va_X b L xs s H0) (hbl : b < H0.size) (hbA : ¬ A b) (hS : va_S A H0 H locs) {t : Nat} (hin : t < L) (hL : L < 2 ^ 31) (hdg : decode cc pc = .ok (.iaload, 1))
    (kk : W p l e R s m args below meth c H locs cells slots Q (F0 m (pc + 1) ls (.int (xs t) :: rest))) : W p l e R s m args below meth c H locs cells slots Q (F0 m pc ls (.int (nI t) :: .ref b :: rest)) :=
  va_sld hx hb hX hbl hbA hS (vp_in_nI hin hL) hdg (by rw [nI_clamp (Nat.lt_trans hin hL)]; exact kk)
theorem kl_le {L j : Nat} (hL : L ≤ 1536) (hj : j ≤ 513) (h : ¬ nI L - nI 3 < nI (3 * j)) : 3 * j + 3 ≤ L := by
  have e3 : (nI (3 * j)).toInt = ((3 * j : Nat) : Int) := nI_toInt (by omega)
  rw [Int32.lt_iff_toInt_lt, e3] at h
  have e : (nI L - nI 3).toInt = (L : Int) - 3 := by
    by_cases q : 3 ≤ L
    · rw [pk_sub q, nI_toInt (by omega)]; omega
    · have : L = 0 ∨ L = 1 ∨ L = 2 := by omega
      rcases this with rfl | rfl | rfl <;> decide
  rw [e] at h
  omega
theorem kl_and (x : Int32) : ∃ v : Nat, v < 16 ∧ x &&& nI 15 = nI v := by
  obtain ⟨X, hX, rfl⟩ := bc_nI x
  exact ⟨X &&& 15, Nat.lt_of_le_of_lt Nat.and_le_right (by decide), bc_andI X 15⟩
theorem kl_cmp (x : Int64) : lg_cmp x x = nI 0 := by
  rw [lg_cmp, if_neg (Int64.lt_irrefl), if_pos rfl]; rfl

set_option maxHeartbeats 4000000 in
set_option maxRecDepth 100000 in
theorem w_format {p : Program} {l : Launch} {e : Env} {s : State} {m : MethodId} {below : List Frame} {meth : Method} {c : Code} (dC : Nat → ClassId) (dI : Nat → Nat → Nat) {b L : Nat} {xs : Nat → Int32} (hl0 : l.stackTraces = false) (hL : L ≤ 1536) (C0 : lw_At p s m meth c b L xs) (cA cL : ClassId) (h0 q0 q1 q2 q3 q4 q5 g0 r1 r2 r3 r4 r5 o0 : Nat) (hK : va_K (dC, dI) vwCl [(cA, .int), (cL, .long)] s) (hZ : kZ (fun q : Nat => s.heap.size ≤ q) s) (hN : va_Nc kISE kIAE s) (j : Nat) (hj : 3 * j + 3 ≤ L) (cells slots : Nat) (hcs : cells + 1 ≤ 1049 ∧ slots + 6 ≤ 11870) (hnext : kGo p l e s m below meth c dC dI b cA cL h0 q0 q1 q2 q3 q4 q5 g0 r1 r2 r3 r4 r5 o0 j (cells + 1) (slots + 6) 831) : kGo p l e s m below meth c dC dI b cA cL h0 q0 q1 q2 q3 q4 q5 g0 r1 r2 r3 r4 r5 o0 j cells slots 112 := by
  intro fo w ce nm tl tc tw we wr T n z wtc wia off cd hR H locs hP hD hS ls hl
  obtain ⟨hx, hb, hr, hml, hown, hts0, hX, hbl, hlocks, hgv⟩ := id C0
  have hts : ∀ w ∈ wsL_law, w.before #[Value.ref b] s = true := fun w h => hts0 w (wsL_law_in w h)
  have hA : ∀ q : Nat, s.heap.size ≤ q → (fun q : Nat => s.heap.size ≤ q) q := fun _ h => h
  have hbA : ¬ (fun q : Nat => s.heap.size ≤ q) b := Nat.not_le.mpr hbl
  refine W.widen (k := cells + 1) (n := slots + 6) (by omega) (by omega) ?_
  refine lv_aload_n hx hb dL_law_112 rfl (lv_at hl 1 rfl) ?_
  refine kv_Vv (Xr := wX1 cA g0 r1 r2 r3 r4 r5 ce w we wr nm n T cd off wtc wia ++ wO cL o0 fo) (n := 0) (c_X0_format l dC dI cA h0 q0 q1 q2 q3 q4 q5 w ce nm tl tc tw T n z wtc wia off) hx hb hml hown hts gL_law_X0_format rfl ⟨rfl, rfl⟩ ⟨rfl, by decide +kernel, by decide +kernel, by decide +kernel⟩ rfl ⟨Nat.le_of_ble_eq_true rfl, Nat.le_of_ble_eq_true rfl⟩ hK hP hD hS hA [0] [0, 1, 2, 3, 4, 5, 6] [7, 8, 9, 10, 11, 12, 13] rfl rfl rfl (by decide) (by decide) (q0 := 0) rfl rfl rfl (by decide) hl.1 rfl (Nat.le_of_ble_eq_true rfl) dL_law_113 ⟨by have := hcs.1; show cells + 1 ≤ 1049; omega, by have := hcs.2; show slots + 6 ≤ 11870; omega⟩ (fun H locs hP hD hS => ?_)
  have hP := hP.sub (ws' := wX0 cA h0 q0 q1 q2 q3 q4 q5 (kx_fill w (nI 0) 98) (kx_fill ce (nI 0) 32) nm tl tc tw 0 0 0 (nI 0) (nI 0) (nI 0) ++ (wX1 cA g0 r1 r2 r3 r4 r5 ce w we wr nm n T cd off wtc wia ++ wO cL o0 fo)) [7, 8, 9, 10, 11, 12, 13, 0, 1, 2, 3, 4, 5, 6] rfl
  have hD := hD.sub (ws' := wX0 cA h0 q0 q1 q2 q3 q4 q5 (kx_fill w (nI 0) 98) (kx_fill ce (nI 0) 32) nm tl tc tw 0 0 0 (nI 0) (nI 0) (nI 0) ++ (wX1 cA g0 r1 r2 r3 r4 r5 ce w we wr nm n T cd off wtc wia ++ wO cL o0 fo)) [7, 8, 9, 10, 11, 12, 13, 0, 1, 2, 3, 4, 5, 6] (by decide) rfl
  refine lv_aload_n hx hb dL_law_116 rfl (lv_at hl 2 rfl) ?_
  refine kv_Vv (Xr := wX0 cA h0 q0 q1 q2 q3 q4 q5 (kx_fill w (nI 0) 98) (kx_fill ce (nI 0) 32) nm tl tc tw 0 0 0 (nI 0) (nI 0) (nI 0) ++ wO cL o0 fo) (n := 0) (c_X1_format l dC dI cA g0 r1 r2 r3 r4 r5 ce w we wr nm n T cd off wtc wia) hx hb hml hown hts gL_law_X1_format rfl ⟨rfl, rfl⟩ ⟨rfl, by decide +kernel, by decide +kernel, by decide +kernel⟩ rfl ⟨Nat.le_of_ble_eq_true rfl, Nat.le_of_ble_eq_true rfl⟩ hK hP hD hS hA [0] [7, 8, 9, 10, 11, 12] [0, 1, 2, 3, 4, 5, 6, 13] rfl rfl rfl (by decide) (by decide) (q0 := 0) rfl rfl rfl (by decide) hl.1 rfl (Nat.le_of_ble_eq_true rfl) dL_law_117 ⟨by have := hcs.1; show cells + 1 ≤ 1049; omega, by have := hcs.2; show slots + 6 ≤ 11870; omega⟩ (fun H locs hP hD hS => ?_)
  have hP := hP.sub (ws' := wX0 cA h0 q0 q1 q2 q3 q4 q5 (kx_fill w (nI 0) 98) (kx_fill ce (nI 0) 32) nm tl tc tw 0 0 0 (nI 0) (nI 0) (nI 0) ++ (wX1 cA g0 r1 r2 r3 r4 r5 (kx_fill ce (nI 0) 32) (kx_fill w (nI 0) 98) we wr nm 0 0 (nI 0) (nI 0) (nI 0) (nI 0) ++ wO cL o0 fo)) [0, 1, 2, 3, 4, 5, 6, 8, 9, 10, 11, 12, 13, 7] rfl
  have hD := hD.sub (ws' := wX0 cA h0 q0 q1 q2 q3 q4 q5 (kx_fill w (nI 0) 98) (kx_fill ce (nI 0) 32) nm tl tc tw 0 0 0 (nI 0) (nI 0) (nI 0) ++ (wX1 cA g0 r1 r2 r3 r4 r5 (kx_fill ce (nI 0) 32) (kx_fill w (nI 0) 98) we wr nm 0 0 (nI 0) (nI 0) (nI 0) (nI 0) ++ wO cL o0 fo)) [0, 1, 2, 3, 4, 5, 6, 8, 9, 10, 11, 12, 13, 7] (by decide) rfl
  refine lv_goto (tgt := 831) hx hb dL_law_120 (by decide) ?_
  exact hnext _ _ _ _ _ _ _ _ _ _ _ _ _ _ _ _ (kR_0 _ _ _ _ _ _ _) H locs hP hD hS ls (lv_sub hl [0, 1, 2, 3, 4] rfl)
set_option maxHeartbeats 4000000 in
set_option maxRecDepth 100000 in
theorem w_begin {p : Program} {l : Launch} {e : Env} {s : State} {m : MethodId} {below : List Frame} {meth : Method} {c : Code} (dC : Nat → ClassId) (dI : Nat → Nat → Nat) {b L : Nat} {xs : Nat → Int32} (hl0 : l.stackTraces = false) (hL : L ≤ 1536) (C0 : lw_At p s m meth c b L xs) (cA cL : ClassId) (h0 q0 q1 q2 q3 q4 q5 g0 r1 r2 r3 r4 r5 o0 : Nat) (hK : va_K (dC, dI) vwCl [(cA, .int), (cL, .long)] s) (hZ : kZ (fun q : Nat => s.heap.size ≤ q) s) (hN : va_Nc kISE kIAE s) (j : Nat) (hj : 3 * j + 3 ≤ L) (cells slots : Nat) (hcs : cells + 1 ≤ 1049 ∧ slots + 6 ≤ 11870) (hnext : kGo p l e s m below meth c dC dI b cA cL h0 q0 q1 q2 q3 q4 q5 g0 r1 r2 r3 r4 r5 o0 j (cells + 1) (slots + 6) 831) : kGo p l e s m below meth c dC dI b cA cL h0 q0 q1 q2 q3 q4 q5 g0 r1 r2 r3 r4 r5 o0 j cells slots 123 := by
  intro fo w ce nm tl tc tw we wr T n z wtc wia off cd hR H locs hP hD hS ls hl
  obtain ⟨hx, hb, hr, hml, hown, hts0, hX, hbl, hlocks, hgv⟩ := id C0
  have hts : ∀ w ∈ wsL_law, w.before #[Value.ref b] s = true := fun w h => hts0 w (wsL_law_in w h)
  have hA : ∀ q : Nat, s.heap.size ≤ q → (fun q : Nat => s.heap.size ≤ q) q := fun _ h => h
  have hbA : ¬ (fun q : Nat => s.heap.size ≤ q) b := Nat.not_le.mpr hbl
  obtain ⟨k, r, rm, fo2, w2, ce2, nm2, tl2, tc2, tw2, we2, wr2, T2, n2, z2, wtc2, wia2, off2, hk2, hc, hm, hrm, hans, hR2⟩ := s_begin l hl0 dC dI cA cL h0 q0 q1 q2 q3 q4 q5 o0 g0 r1 r2 r3 r4 r5 fo w ce nm tl tc tw we wr T n z wtc wia off cd  hR
  refine lv_aload_n hx hb dL_law_123 rfl (lv_at hl 1 rfl) ?_
  refine lv_aload_n hx hb dL_law_124 rfl (lv_at hl 3 rfl) ?_
  refine kc_call (Xr := wX1 cA g0 r1 r2 r3 r4 r5 ce w we wr nm n T cd off wtc wia) (n := 2) hc hx hb hml hown hts gL_law_L_begin rfl ⟨rfl, rfl⟩ ⟨by decide +kernel, by decide +kernel, by decide +kernel⟩ rfl ⟨Nat.le_of_ble_eq_true rfl, Nat.le_of_ble_eq_true rfl⟩ hK hP hD hS hA hZ hN [0, 1] [0, 1, 2, 3, 4, 5, 6, 13] [7, 8, 9, 10, 11, 12] rfl rfl rfl (by decide) (by decide) rfl (by decide) hl.1 rfl (Nat.le_of_ble_eq_true rfl) dL_law_125 hcs (fun H locs hP hD hS => ?_)
  have hP := hP.sub (ws' := wX0 cA h0 q0 q1 q2 q3 q4 q5 w2 ce2 nm2 tl2 tc2 tw2 T2 n2 z2 wtc2 wia2 off2 ++ (wX1 cA g0 r1 r2 r3 r4 r5 ce w we wr nm n T cd off wtc wia ++ wO cL o0 fo2)) [6, 7, 8, 9, 10, 11, 12, 0, 1, 2, 3, 4, 5, 13] rfl
  have hD := hD.sub (ws' := wX0 cA h0 q0 q1 q2 q3 q4 q5 w2 ce2 nm2 tl2 tc2 tw2 T2 n2 z2 wtc2 wia2 off2 ++ (wX1 cA g0 r1 r2 r3 r4 r5 ce w we wr nm n T cd off wtc wia ++ wO cL o0 fo2)) [6, 7, 8, 9, 10, 11, 12, 0, 1, 2, 3, 4, 5, 13] (by decide) rfl
  refine lv_istore (lv' := [(5, .int (nI k)), (0, .ref b), (1, .ref h0), (2, .ref g0), (3, .ref o0), (4, .int (nI (3 * j)))]) hx hb dL_law_128 hl (by decide) rfl (fun ls hl => ?_)
  refine lv_aload_n hx hb dL_law_130 rfl (lv_at hl 3 rfl) ?_
  refine kv_Vi (Xr := wX0 cA h0 q0 q1 q2 q3 q4 q5 w2 ce2 nm2 tl2 tc2 tw2 T2 n2 z2 wtc2 wia2 off2 ++ wO cL o0 fo2) (n := 0) hm hx hb hml hown hts gL_law_X1_begin rfl ⟨hrm.1, hrm.2.1⟩ ⟨rfl, by decide +kernel, by decide +kernel, by decide +kernel⟩ rfl ⟨Nat.le_trans (Nat.succ_le_succ hrm.2.2.1) (Nat.le_of_ble_eq_true rfl), Nat.le_trans (Nat.add_le_add_left hrm.2.2.2 _) (Nat.le_of_ble_eq_true rfl)⟩ hK hP hD hS hA [0] [7, 8, 9, 10, 11, 12] [0, 1, 2, 3, 4, 5, 6, 13] rfl rfl rfl (by decide) (by decide) (q0 := 0) rfl rfl rfl (by decide) hl.1 rfl (Nat.le_of_ble_eq_true rfl) dL_law_131 ⟨by have := hcs.1; show cells + 1 ≤ 1049; omega, by have := hcs.2; show slots + 6 ≤ 11870; omega⟩ (fun H locs hP hD hS => ?_)
  have hP := hP.sub (ws' := wX0 cA h0 q0 q1 q2 q3 q4 q5 w2 ce2 nm2 tl2 tc2 tw2 T2 n2 z2 wtc2 wia2 off2 ++ (wX1 cA g0 r1 r2 r3 r4 r5 ce2 w2 we2 wr2 nm2 n2 T2 (nI k) off2 wtc2 wia2 ++ wO cL o0 fo2)) [0, 1, 2, 3, 4, 5, 6, 8, 9, 10, 11, 12, 13, 7] rfl
  have hD := hD.sub (ws' := wX0 cA h0 q0 q1 q2 q3 q4 q5 w2 ce2 nm2 tl2 tc2 tw2 T2 n2 z2 wtc2 wia2 off2 ++ (wX1 cA g0 r1 r2 r3 r4 r5 ce2 w2 we2 wr2 nm2 n2 T2 (nI k) off2 wtc2 wia2 ++ wO cL o0 fo2)) [0, 1, 2, 3, 4, 5, 6, 8, 9, 10, 11, 12, 13, 7] (by decide) rfl
  refine lv_istore (lv' := [(6, .int r), (5, .int (nI k)), (0, .ref b), (1, .ref h0), (2, .ref g0), (3, .ref o0), (4, .int (nI (3 * j)))]) hx hb dL_law_134 hl (by decide) rfl (fun ls hl => ?_)
  refine lv_aload_n hx hb dL_law_136 rfl (lv_at hl 4 rfl) ?_
  refine kv_Vi (Xr := wX0 cA h0 q0 q1 q2 q3 q4 q5 w2 ce2 nm2 tl2 tc2 tw2 T2 n2 z2 wtc2 wia2 off2 ++ wO cL o0 fo2) (n := 0) (c_X1_thrown l dC dI cA g0 r1 r2 r3 r4 r5 ce2 w2 we2 wr2 nm2 n2 T2 (nI k) off2 wtc2 wia2) hx hb hml hown hts gL_law_X1_thrown rfl ⟨rfl, rfl⟩ ⟨rfl, by decide +kernel, by decide +kernel, by decide +kernel⟩ rfl ⟨Nat.le_of_ble_eq_true rfl, Nat.le_of_ble_eq_true rfl⟩ hK hP hD hS hA [0] [7, 8, 9, 10, 11, 12] [0, 1, 2, 3, 4, 5, 6, 13] rfl rfl rfl (by decide) (by decide) (q0 := 0) rfl rfl rfl (by decide) hl.1 rfl (Nat.le_of_ble_eq_true rfl) dL_law_137 ⟨by have := hcs.1; show cells + 1 ≤ 1049; omega, by have := hcs.2; show slots + 6 ≤ 11870; omega⟩ (fun H locs hP hD hS => ?_)
  have hP := hP.sub (ws' := wX0 cA h0 q0 q1 q2 q3 q4 q5 w2 ce2 nm2 tl2 tc2 tw2 T2 n2 z2 wtc2 wia2 off2 ++ (wX1 cA g0 r1 r2 r3 r4 r5 ce2 w2 we2 wr2 nm2 n2 T2 (nI k) off2 wtc2 wia2 ++ wO cL o0 fo2)) [0, 1, 2, 3, 4, 5, 6, 8, 9, 10, 11, 12, 13, 7] rfl
  have hD := hD.sub (ws' := wX0 cA h0 q0 q1 q2 q3 q4 q5 w2 ce2 nm2 tl2 tc2 tw2 T2 n2 z2 wtc2 wia2 off2 ++ (wX1 cA g0 r1 r2 r3 r4 r5 ce2 w2 we2 wr2 nm2 n2 T2 (nI k) off2 wtc2 wia2 ++ wO cL o0 fo2)) [0, 1, 2, 3, 4, 5, 6, 8, 9, 10, 11, 12, 13, 7] (by decide) rfl
  refine lv_iload hx hb dL_law_140 (lv_at hl 1 rfl) ?_
  refine lv_icmp_eq (tgt := 147) hx hb dL_law_142 (by decide) (fun _ => ?_) (fun h9 => absurd rfl h9)
  refine lv_iload hx hb dL_law_147 (lv_at hl 1 rfl) ?_
  refine kv_if_ne (tgt := 164) hx hb (by omega) dL_law_149 (by decide) (fun h9 => ?_) (fun h9 => ?_)
  · refine lv_goto (tgt := 831) hx hb dL_law_164 (by decide) ?_
    exact hnext _ _ _ _ _ _ _ _ _ _ _ _ _ _ _ _ hR2 H locs hP hD hS ls (lv_sub hl [2, 3, 4, 5, 6] rfl)
  refine lv_aload_n hx hb dL_law_152 rfl (lv_at hl 5 rfl) ?_
  refine lv_iconst (v := (nI 0)) hx hb dL_law_153 (by decide) ?_
  refine va_lald (D := (dC, dI)) hx hb hK hP 13 1 rfl rfl ko_in dL_law_154 ?_
  refine kv_top (w := .long (r.toInt64)) (congrArg Value.long (hans h9)) ?_
  refine lv_iload hx hb dL_law_155 (lv_at hl 0 rfl) ?_
  refine lv_i2l hx hb dL_law_157 rfl ?_
  refine W.lcmp hx hb dL_law_158 ?_
  refine kv_top (w := .int (nI 0)) (congrArg Value.int (kl_cmp _)) ?_
  refine kv_if_eq (tgt := 164) hx hb (by omega) dL_law_159 (by decide) (fun _ => ?_) (fun h8 => absurd h8 (by omega))
  refine lv_goto (tgt := 831) hx hb dL_law_164 (by decide) ?_
  exact hnext _ _ _ _ _ _ _ _ _ _ _ _ _ _ _ _ hR2 H locs hP hD hS ls (lv_sub hl [2, 3, 4, 5, 6] rfl)
set_option maxHeartbeats 4000000 in
set_option maxRecDepth 100000 in
theorem w_write {p : Program} {l : Launch} {e : Env} {s : State} {m : MethodId} {below : List Frame} {meth : Method} {c : Code} (dC : Nat → ClassId) (dI : Nat → Nat → Nat) {b L : Nat} {xs : Nat → Int32} (hl0 : l.stackTraces = false) (hL : L ≤ 1536) (C0 : lw_At p s m meth c b L xs) (cA cL : ClassId) (h0 q0 q1 q2 q3 q4 q5 g0 r1 r2 r3 r4 r5 o0 : Nat) (hK : va_K (dC, dI) vwCl [(cA, .int), (cL, .long)] s) (hZ : kZ (fun q : Nat => s.heap.size ≤ q) s) (hN : va_Nc kISE kIAE s) (j : Nat) (hj : 3 * j + 3 ≤ L) (cells slots : Nat) (hcs : cells + 1 ≤ 1049 ∧ slots + 6 ≤ 11870) (hnext : kGo p l e s m below meth c dC dI b cA cL h0 q0 q1 q2 q3 q4 q5 g0 r1 r2 r3 r4 r5 o0 j (cells + 1) (slots + 6) 831) : kGo p l e s m below meth c dC dI b cA cL h0 q0 q1 q2 q3 q4 q5 g0 r1 r2 r3 r4 r5 o0 j cells slots 167 := by
  intro fo w ce nm tl tc tw we wr T n z wtc wia off cd hR H locs hP hD hS ls hl
  obtain ⟨hx, hb, hr, hml, hown, hts0, hX, hbl, hlocks, hgv⟩ := id C0
  have hts : ∀ w ∈ wsL_law, w.before #[Value.ref b] s = true := fun w h => hts0 w (wsL_law_in w h)
  have hA : ∀ q : Nat, s.heap.size ≤ q → (fun q : Nat => s.heap.size ≤ q) q := fun _ h => h
  have hbA : ¬ (fun q : Nat => s.heap.size ≤ q) b := Nat.not_le.mpr hbl
  obtain ⟨k, r, rm, fo2, w2, ce2, nm2, tl2, tc2, tw2, we2, wr2, T2, n2, z2, wtc2, wia2, off2, hk2, hc, hm, hrm, hans, hR2⟩ := s_write l hl0 dC dI cA cL h0 q0 q1 q2 q3 q4 q5 o0 g0 r1 r2 r3 r4 r5 fo w ce nm tl tc tw we wr T n z wtc wia off cd (xs (3 * j + 1)) (xs (3 * j + 2)) hR
  refine lv_aload_n hx hb dL_law_167 rfl (lv_at hl 1 rfl) ?_
  refine lv_aload_n hx hb dL_law_168 rfl (lv_at hl 0 rfl) ?_
  refine lv_iload hx hb dL_law_169 (lv_at hl 4 rfl) ?_
  refine lv_iconst (v := (nI 1)) hx hb dL_law_171 (by decide) ?_
  refine kv_addE (d := 3 * j + 1) hx hb (by omega) dL_law_172 ?_
  refine kv_sld hx hb hX hbl hbA hS (t := (3 * j + 1)) (by omega) (by omega) dL_law_173 ?_
  refine lv_aload_n hx hb dL_law_174 rfl (lv_at hl 0 rfl) ?_
  refine lv_iload hx hb dL_law_175 (lv_at hl 4 rfl) ?_
  refine lv_iconst (v := (nI 2)) hx hb dL_law_177 (by decide) ?_
  refine kv_addE (d := 3 * j + 2) hx hb (by omega) dL_law_178 ?_
  refine kv_sld hx hb hX hbl hbA hS (t := (3 * j + 2)) (by omega) (by omega) dL_law_179 ?_
  refine lv_aload_n hx hb dL_law_180 rfl (lv_at hl 3 rfl) ?_
  refine kc_call (Xr := wX1 cA g0 r1 r2 r3 r4 r5 ce w we wr nm n T cd off wtc wia) (n := 4) hc hx hb hml hown hts gL_law_L_write rfl ⟨rfl, rfl⟩ ⟨by decide +kernel, by decide +kernel, by decide +kernel⟩ rfl ⟨Nat.le_of_ble_eq_true rfl, Nat.le_of_ble_eq_true rfl⟩ hK hP hD hS hA hZ hN [0, 1] [0, 1, 2, 3, 4, 5, 6, 13] [7, 8, 9, 10, 11, 12] rfl rfl rfl (by decide) (by decide) rfl (by decide) hl.1 rfl (Nat.le_of_ble_eq_true rfl) dL_law_181 hcs (fun H locs hP hD hS => ?_)
  have hP := hP.sub (ws' := wX0 cA h0 q0 q1 q2 q3 q4 q5 w2 ce2 nm2 tl2 tc2 tw2 T2 n2 z2 wtc2 wia2 off2 ++ (wX1 cA g0 r1 r2 r3 r4 r5 ce w we wr nm n T cd off wtc wia ++ wO cL o0 fo2)) [6, 7, 8, 9, 10, 11, 12, 0, 1, 2, 3, 4, 5, 13] rfl
  have hD := hD.sub (ws' := wX0 cA h0 q0 q1 q2 q3 q4 q5 w2 ce2 nm2 tl2 tc2 tw2 T2 n2 z2 wtc2 wia2 off2 ++ (wX1 cA g0 r1 r2 r3 r4 r5 ce w we wr nm n T cd off wtc wia ++ wO cL o0 fo2)) [6, 7, 8, 9, 10, 11, 12, 0, 1, 2, 3, 4, 5, 13] (by decide) rfl
  refine lv_istore (lv' := [(5, .int (nI k)), (0, .ref b), (1, .ref h0), (2, .ref g0), (3, .ref o0), (4, .int (nI (3 * j)))]) hx hb dL_law_184 hl (by decide) rfl (fun ls hl => ?_)
  refine lv_aload_n hx hb dL_law_186 rfl (lv_at hl 3 rfl) ?_
  refine lv_aload_n hx hb dL_law_187 rfl (lv_at hl 1 rfl) ?_
  refine lv_iload hx hb dL_law_188 (lv_at hl 5 rfl) ?_
  refine lv_iconst (v := (nI 1)) hx hb dL_law_190 (by decide) ?_
  refine kv_addE (d := 3 * j + 1) hx hb (by omega) dL_law_191 ?_
  refine kv_sld hx hb hX hbl hbA hS (t := (3 * j + 1)) (by omega) (by omega) dL_law_192 ?_
  refine lv_aload_n hx hb dL_law_193 rfl (lv_at hl 1 rfl) ?_
  refine lv_iload hx hb dL_law_194 (lv_at hl 5 rfl) ?_
  refine lv_iconst (v := (nI 2)) hx hb dL_law_196 (by decide) ?_
  refine kv_addE (d := 3 * j + 2) hx hb (by omega) dL_law_197 ?_
  refine kv_sld hx hb hX hbl hbA hS (t := (3 * j + 2)) (by omega) (by omega) dL_law_198 ?_
  refine kv_Vi (Xr := wX0 cA h0 q0 q1 q2 q3 q4 q5 w2 ce2 nm2 tl2 tc2 tw2 T2 n2 z2 wtc2 wia2 off2 ++ wO cL o0 fo2) (n := 2) hm hx hb hml hown hts gL_law_X1_write rfl ⟨hrm.1, hrm.2.1⟩ ⟨rfl, by decide +kernel, by decide +kernel, by decide +kernel⟩ rfl ⟨Nat.le_trans (Nat.succ_le_succ hrm.2.2.1) (Nat.le_of_ble_eq_true rfl), Nat.le_trans (Nat.add_le_add_left hrm.2.2.2 _) (Nat.le_of_ble_eq_true rfl)⟩ hK hP hD hS hA [0] [7, 8, 9, 10, 11, 12] [0, 1, 2, 3, 4, 5, 6, 13] rfl rfl rfl (by decide) (by decide) (q0 := 0) rfl rfl rfl (by decide) hl.1 rfl (Nat.le_of_ble_eq_true rfl) dL_law_199 ⟨by have := hcs.1; show cells + 1 ≤ 1049; omega, by have := hcs.2; show slots + 6 ≤ 11870; omega⟩ (fun H locs hP hD hS => ?_)
  have hP := hP.sub (ws' := wX0 cA h0 q0 q1 q2 q3 q4 q5 w2 ce2 nm2 tl2 tc2 tw2 T2 n2 z2 wtc2 wia2 off2 ++ (wX1 cA g0 r1 r2 r3 r4 r5 ce2 w2 we2 wr2 nm2 n2 T2 (nI k) off2 wtc2 wia2 ++ wO cL o0 fo2)) [0, 1, 2, 3, 4, 5, 6, 8, 9, 10, 11, 12, 13, 7] rfl
  have hD := hD.sub (ws' := wX0 cA h0 q0 q1 q2 q3 q4 q5 w2 ce2 nm2 tl2 tc2 tw2 T2 n2 z2 wtc2 wia2 off2 ++ (wX1 cA g0 r1 r2 r3 r4 r5 ce2 w2 we2 wr2 nm2 n2 T2 (nI k) off2 wtc2 wia2 ++ wO cL o0 fo2)) [0, 1, 2, 3, 4, 5, 6, 8, 9, 10, 11, 12, 13, 7] (by decide) rfl
  refine lv_istore (lv' := [(6, .int r), (5, .int (nI k)), (0, .ref b), (1, .ref h0), (2, .ref g0), (3, .ref o0), (4, .int (nI (3 * j)))]) hx hb dL_law_202 hl (by decide) rfl (fun ls hl => ?_)
  refine lv_aload_n hx hb dL_law_204 rfl (lv_at hl 4 rfl) ?_
  refine kv_Vi (Xr := wX0 cA h0 q0 q1 q2 q3 q4 q5 w2 ce2 nm2 tl2 tc2 tw2 T2 n2 z2 wtc2 wia2 off2 ++ wO cL o0 fo2) (n := 0) (c_X1_thrown l dC dI cA g0 r1 r2 r3 r4 r5 ce2 w2 we2 wr2 nm2 n2 T2 (nI k) off2 wtc2 wia2) hx hb hml hown hts gL_law_X1_thrown rfl ⟨rfl, rfl⟩ ⟨rfl, by decide +kernel, by decide +kernel, by decide +kernel⟩ rfl ⟨Nat.le_of_ble_eq_true rfl, Nat.le_of_ble_eq_true rfl⟩ hK hP hD hS hA [0] [7, 8, 9, 10, 11, 12] [0, 1, 2, 3, 4, 5, 6, 13] rfl rfl rfl (by decide) (by decide) (q0 := 0) rfl rfl rfl (by decide) hl.1 rfl (Nat.le_of_ble_eq_true rfl) dL_law_205 ⟨by have := hcs.1; show cells + 1 ≤ 1049; omega, by have := hcs.2; show slots + 6 ≤ 11870; omega⟩ (fun H locs hP hD hS => ?_)
  have hP := hP.sub (ws' := wX0 cA h0 q0 q1 q2 q3 q4 q5 w2 ce2 nm2 tl2 tc2 tw2 T2 n2 z2 wtc2 wia2 off2 ++ (wX1 cA g0 r1 r2 r3 r4 r5 ce2 w2 we2 wr2 nm2 n2 T2 (nI k) off2 wtc2 wia2 ++ wO cL o0 fo2)) [0, 1, 2, 3, 4, 5, 6, 8, 9, 10, 11, 12, 13, 7] rfl
  have hD := hD.sub (ws' := wX0 cA h0 q0 q1 q2 q3 q4 q5 w2 ce2 nm2 tl2 tc2 tw2 T2 n2 z2 wtc2 wia2 off2 ++ (wX1 cA g0 r1 r2 r3 r4 r5 ce2 w2 we2 wr2 nm2 n2 T2 (nI k) off2 wtc2 wia2 ++ wO cL o0 fo2)) [0, 1, 2, 3, 4, 5, 6, 8, 9, 10, 11, 12, 13, 7] (by decide) rfl
  refine lv_iload hx hb dL_law_208 (lv_at hl 1 rfl) ?_
  refine lv_icmp_eq (tgt := 215) hx hb dL_law_210 (by decide) (fun _ => ?_) (fun h9 => absurd rfl h9)
  refine lv_iload hx hb dL_law_215 (lv_at hl 1 rfl) ?_
  refine kv_if_ne (tgt := 232) hx hb (by omega) dL_law_217 (by decide) (fun h9 => ?_) (fun h9 => ?_)
  · refine lv_goto (tgt := 831) hx hb dL_law_232 (by decide) ?_
    exact hnext _ _ _ _ _ _ _ _ _ _ _ _ _ _ _ _ hR2 H locs hP hD hS ls (lv_sub hl [2, 3, 4, 5, 6] rfl)
  refine lv_aload_n hx hb dL_law_220 rfl (lv_at hl 5 rfl) ?_
  refine lv_iconst (v := (nI 0)) hx hb dL_law_221 (by decide) ?_
  refine va_lald (D := (dC, dI)) hx hb hK hP 13 1 rfl rfl ko_in dL_law_222 ?_
  refine kv_top (w := .long (r.toInt64)) (congrArg Value.long (hans h9)) ?_
  refine lv_iload hx hb dL_law_223 (lv_at hl 0 rfl) ?_
  refine lv_i2l hx hb dL_law_225 rfl ?_
  refine W.lcmp hx hb dL_law_226 ?_
  refine kv_top (w := .int (nI 0)) (congrArg Value.int (kl_cmp _)) ?_
  refine kv_if_eq (tgt := 232) hx hb (by omega) dL_law_227 (by decide) (fun _ => ?_) (fun h8 => absurd h8 (by omega))
  refine lv_goto (tgt := 831) hx hb dL_law_232 (by decide) ?_
  exact hnext _ _ _ _ _ _ _ _ _ _ _ _ _ _ _ _ hR2 H locs hP hD hS ls (lv_sub hl [2, 3, 4, 5, 6] rfl)
set_option maxHeartbeats 4000000 in
set_option maxRecDepth 100000 in
theorem w_read {p : Program} {l : Launch} {e : Env} {s : State} {m : MethodId} {below : List Frame} {meth : Method} {c : Code} (dC : Nat → ClassId) (dI : Nat → Nat → Nat) {b L : Nat} {xs : Nat → Int32} (hl0 : l.stackTraces = false) (hL : L ≤ 1536) (C0 : lw_At p s m meth c b L xs) (cA cL : ClassId) (h0 q0 q1 q2 q3 q4 q5 g0 r1 r2 r3 r4 r5 o0 : Nat) (hK : va_K (dC, dI) vwCl [(cA, .int), (cL, .long)] s) (hZ : kZ (fun q : Nat => s.heap.size ≤ q) s) (hN : va_Nc kISE kIAE s) (j : Nat) (hj : 3 * j + 3 ≤ L) (cells slots : Nat) (hcs : cells + 1 ≤ 1049 ∧ slots + 6 ≤ 11870) (hnext : kGo p l e s m below meth c dC dI b cA cL h0 q0 q1 q2 q3 q4 q5 g0 r1 r2 r3 r4 r5 o0 j (cells + 1) (slots + 6) 831) : kGo p l e s m below meth c dC dI b cA cL h0 q0 q1 q2 q3 q4 q5 g0 r1 r2 r3 r4 r5 o0 j cells slots 235 := by
  intro fo w ce nm tl tc tw we wr T n z wtc wia off cd hR H locs hP hD hS ls hl
  obtain ⟨hx, hb, hr, hml, hown, hts0, hX, hbl, hlocks, hgv⟩ := id C0
  have hts : ∀ w ∈ wsL_law, w.before #[Value.ref b] s = true := fun w h => hts0 w (wsL_law_in w h)
  have hA : ∀ q : Nat, s.heap.size ≤ q → (fun q : Nat => s.heap.size ≤ q) q := fun _ h => h
  have hbA : ¬ (fun q : Nat => s.heap.size ≤ q) b := Nat.not_le.mpr hbl
  obtain ⟨k, r, rm, fo2, w2, ce2, nm2, tl2, tc2, tw2, we2, wr2, T2, n2, z2, wtc2, wia2, off2, hk2, hc, hm, hrm, hans, hR2⟩ := s_read l hl0 dC dI cA cL h0 q0 q1 q2 q3 q4 q5 o0 g0 r1 r2 r3 r4 r5 fo w ce nm tl tc tw we wr T n z wtc wia off cd (xs (3 * j + 1)) hR
  refine lv_aload_n hx hb dL_law_235 rfl (lv_at hl 1 rfl) ?_
  refine lv_aload_n hx hb dL_law_236 rfl (lv_at hl 0 rfl) ?_
  refine lv_iload hx hb dL_law_237 (lv_at hl 4 rfl) ?_
  refine lv_iconst (v := (nI 1)) hx hb dL_law_239 (by decide) ?_
  refine kv_addE (d := 3 * j + 1) hx hb (by omega) dL_law_240 ?_
  refine kv_sld hx hb hX hbl hbA hS (t := (3 * j + 1)) (by omega) (by omega) dL_law_241 ?_
  refine lv_aload_n hx hb dL_law_242 rfl (lv_at hl 3 rfl) ?_
  refine kc_call (Xr := wX1 cA g0 r1 r2 r3 r4 r5 ce w we wr nm n T cd off wtc wia) (n := 3) hc hx hb hml hown hts gL_law_L_read rfl ⟨rfl, rfl⟩ ⟨by decide +kernel, by decide +kernel, by decide +kernel⟩ rfl ⟨Nat.le_of_ble_eq_true rfl, Nat.le_of_ble_eq_true rfl⟩ hK hP hD hS hA hZ hN [0, 1] [0, 1, 2, 3, 4, 5, 6, 13] [7, 8, 9, 10, 11, 12] rfl rfl rfl (by decide) (by decide) rfl (by decide) hl.1 rfl (Nat.le_of_ble_eq_true rfl) dL_law_243 hcs (fun H locs hP hD hS => ?_)
  have hP := hP.sub (ws' := wX0 cA h0 q0 q1 q2 q3 q4 q5 w2 ce2 nm2 tl2 tc2 tw2 T2 n2 z2 wtc2 wia2 off2 ++ (wX1 cA g0 r1 r2 r3 r4 r5 ce w we wr nm n T cd off wtc wia ++ wO cL o0 fo2)) [6, 7, 8, 9, 10, 11, 12, 0, 1, 2, 3, 4, 5, 13] rfl
  have hD := hD.sub (ws' := wX0 cA h0 q0 q1 q2 q3 q4 q5 w2 ce2 nm2 tl2 tc2 tw2 T2 n2 z2 wtc2 wia2 off2 ++ (wX1 cA g0 r1 r2 r3 r4 r5 ce w we wr nm n T cd off wtc wia ++ wO cL o0 fo2)) [6, 7, 8, 9, 10, 11, 12, 0, 1, 2, 3, 4, 5, 13] (by decide) rfl
  refine lv_istore (lv' := [(5, .int (nI k)), (0, .ref b), (1, .ref h0), (2, .ref g0), (3, .ref o0), (4, .int (nI (3 * j)))]) hx hb dL_law_246 hl (by decide) rfl (fun ls hl => ?_)
  refine lv_aload_n hx hb dL_law_248 rfl (lv_at hl 3 rfl) ?_
  refine lv_aload_n hx hb dL_law_249 rfl (lv_at hl 1 rfl) ?_
  refine lv_iload hx hb dL_law_250 (lv_at hl 5 rfl) ?_
  refine lv_iconst (v := (nI 1)) hx hb dL_law_252 (by decide) ?_
  refine kv_addE (d := 3 * j + 1) hx hb (by omega) dL_law_253 ?_
  refine kv_sld hx hb hX hbl hbA hS (t := (3 * j + 1)) (by omega) (by omega) dL_law_254 ?_
  refine kv_Vi (Xr := wX0 cA h0 q0 q1 q2 q3 q4 q5 w2 ce2 nm2 tl2 tc2 tw2 T2 n2 z2 wtc2 wia2 off2 ++ wO cL o0 fo2) (n := 1) hm hx hb hml hown hts gL_law_X1_read rfl ⟨hrm.1, hrm.2.1⟩ ⟨rfl, by decide +kernel, by decide +kernel, by decide +kernel⟩ rfl ⟨Nat.le_trans (Nat.succ_le_succ hrm.2.2.1) (Nat.le_of_ble_eq_true rfl), Nat.le_trans (Nat.add_le_add_left hrm.2.2.2 _) (Nat.le_of_ble_eq_true rfl)⟩ hK hP hD hS hA [0] [7, 8, 9, 10, 11, 12] [0, 1, 2, 3, 4, 5, 6, 13] rfl rfl rfl (by decide) (by decide) (q0 := 0) rfl rfl rfl (by decide) hl.1 rfl (Nat.le_of_ble_eq_true rfl) dL_law_255 ⟨by have := hcs.1; show cells + 1 ≤ 1049; omega, by have := hcs.2; show slots + 6 ≤ 11870; omega⟩ (fun H locs hP hD hS => ?_)
  have hP := hP.sub (ws' := wX0 cA h0 q0 q1 q2 q3 q4 q5 w2 ce2 nm2 tl2 tc2 tw2 T2 n2 z2 wtc2 wia2 off2 ++ (wX1 cA g0 r1 r2 r3 r4 r5 ce2 w2 we2 wr2 nm2 n2 T2 (nI k) off2 wtc2 wia2 ++ wO cL o0 fo2)) [0, 1, 2, 3, 4, 5, 6, 8, 9, 10, 11, 12, 13, 7] rfl
  have hD := hD.sub (ws' := wX0 cA h0 q0 q1 q2 q3 q4 q5 w2 ce2 nm2 tl2 tc2 tw2 T2 n2 z2 wtc2 wia2 off2 ++ (wX1 cA g0 r1 r2 r3 r4 r5 ce2 w2 we2 wr2 nm2 n2 T2 (nI k) off2 wtc2 wia2 ++ wO cL o0 fo2)) [0, 1, 2, 3, 4, 5, 6, 8, 9, 10, 11, 12, 13, 7] (by decide) rfl
  refine lv_istore (lv' := [(6, .int r), (5, .int (nI k)), (0, .ref b), (1, .ref h0), (2, .ref g0), (3, .ref o0), (4, .int (nI (3 * j)))]) hx hb dL_law_258 hl (by decide) rfl (fun ls hl => ?_)
  refine lv_aload_n hx hb dL_law_260 rfl (lv_at hl 4 rfl) ?_
  refine kv_Vi (Xr := wX0 cA h0 q0 q1 q2 q3 q4 q5 w2 ce2 nm2 tl2 tc2 tw2 T2 n2 z2 wtc2 wia2 off2 ++ wO cL o0 fo2) (n := 0) (c_X1_thrown l dC dI cA g0 r1 r2 r3 r4 r5 ce2 w2 we2 wr2 nm2 n2 T2 (nI k) off2 wtc2 wia2) hx hb hml hown hts gL_law_X1_thrown rfl ⟨rfl, rfl⟩ ⟨rfl, by decide +kernel, by decide +kernel, by decide +kernel⟩ rfl ⟨Nat.le_of_ble_eq_true rfl, Nat.le_of_ble_eq_true rfl⟩ hK hP hD hS hA [0] [7, 8, 9, 10, 11, 12] [0, 1, 2, 3, 4, 5, 6, 13] rfl rfl rfl (by decide) (by decide) (q0 := 0) rfl rfl rfl (by decide) hl.1 rfl (Nat.le_of_ble_eq_true rfl) dL_law_261 ⟨by have := hcs.1; show cells + 1 ≤ 1049; omega, by have := hcs.2; show slots + 6 ≤ 11870; omega⟩ (fun H locs hP hD hS => ?_)
  have hP := hP.sub (ws' := wX0 cA h0 q0 q1 q2 q3 q4 q5 w2 ce2 nm2 tl2 tc2 tw2 T2 n2 z2 wtc2 wia2 off2 ++ (wX1 cA g0 r1 r2 r3 r4 r5 ce2 w2 we2 wr2 nm2 n2 T2 (nI k) off2 wtc2 wia2 ++ wO cL o0 fo2)) [0, 1, 2, 3, 4, 5, 6, 8, 9, 10, 11, 12, 13, 7] rfl
  have hD := hD.sub (ws' := wX0 cA h0 q0 q1 q2 q3 q4 q5 w2 ce2 nm2 tl2 tc2 tw2 T2 n2 z2 wtc2 wia2 off2 ++ (wX1 cA g0 r1 r2 r3 r4 r5 ce2 w2 we2 wr2 nm2 n2 T2 (nI k) off2 wtc2 wia2 ++ wO cL o0 fo2)) [0, 1, 2, 3, 4, 5, 6, 8, 9, 10, 11, 12, 13, 7] (by decide) rfl
  refine lv_iload hx hb dL_law_264 (lv_at hl 1 rfl) ?_
  refine lv_icmp_eq (tgt := 271) hx hb dL_law_266 (by decide) (fun _ => ?_) (fun h9 => absurd rfl h9)
  refine lv_iload hx hb dL_law_271 (lv_at hl 1 rfl) ?_
  refine kv_if_ne (tgt := 288) hx hb (by omega) dL_law_273 (by decide) (fun h9 => ?_) (fun h9 => ?_)
  · refine lv_goto (tgt := 831) hx hb dL_law_288 (by decide) ?_
    exact hnext _ _ _ _ _ _ _ _ _ _ _ _ _ _ _ _ hR2 H locs hP hD hS ls (lv_sub hl [2, 3, 4, 5, 6] rfl)
  refine lv_aload_n hx hb dL_law_276 rfl (lv_at hl 5 rfl) ?_
  refine lv_iconst (v := (nI 0)) hx hb dL_law_277 (by decide) ?_
  refine va_lald (D := (dC, dI)) hx hb hK hP 13 1 rfl rfl ko_in dL_law_278 ?_
  refine kv_top (w := .long (r.toInt64)) (congrArg Value.long (hans h9)) ?_
  refine lv_iload hx hb dL_law_279 (lv_at hl 0 rfl) ?_
  refine lv_i2l hx hb dL_law_281 rfl ?_
  refine W.lcmp hx hb dL_law_282 ?_
  refine kv_top (w := .int (nI 0)) (congrArg Value.int (kl_cmp _)) ?_
  refine kv_if_eq (tgt := 288) hx hb (by omega) dL_law_283 (by decide) (fun _ => ?_) (fun h8 => absurd h8 (by omega))
  refine lv_goto (tgt := 831) hx hb dL_law_288 (by decide) ?_
  exact hnext _ _ _ _ _ _ _ _ _ _ _ _ _ _ _ _ hR2 H locs hP hD hS ls (lv_sub hl [2, 3, 4, 5, 6] rfl)
set_option maxHeartbeats 4000000 in
set_option maxRecDepth 100000 in
theorem w_commit {p : Program} {l : Launch} {e : Env} {s : State} {m : MethodId} {below : List Frame} {meth : Method} {c : Code} (dC : Nat → ClassId) (dI : Nat → Nat → Nat) {b L : Nat} {xs : Nat → Int32} (hl0 : l.stackTraces = false) (hL : L ≤ 1536) (C0 : lw_At p s m meth c b L xs) (cA cL : ClassId) (h0 q0 q1 q2 q3 q4 q5 g0 r1 r2 r3 r4 r5 o0 : Nat) (hK : va_K (dC, dI) vwCl [(cA, .int), (cL, .long)] s) (hZ : kZ (fun q : Nat => s.heap.size ≤ q) s) (hN : va_Nc kISE kIAE s) (j : Nat) (hj : 3 * j + 3 ≤ L) (cells slots : Nat) (hcs : cells + 1 ≤ 1049 ∧ slots + 6 ≤ 11870) (hnext : kGo p l e s m below meth c dC dI b cA cL h0 q0 q1 q2 q3 q4 q5 g0 r1 r2 r3 r4 r5 o0 j (cells + 1) (slots + 6) 831) : kGo p l e s m below meth c dC dI b cA cL h0 q0 q1 q2 q3 q4 q5 g0 r1 r2 r3 r4 r5 o0 j cells slots 291 := by
  intro fo w ce nm tl tc tw we wr T n z wtc wia off cd hR H locs hP hD hS ls hl
  obtain ⟨hx, hb, hr, hml, hown, hts0, hX, hbl, hlocks, hgv⟩ := id C0
  have hts : ∀ w ∈ wsL_law, w.before #[Value.ref b] s = true := fun w h => hts0 w (wsL_law_in w h)
  have hA : ∀ q : Nat, s.heap.size ≤ q → (fun q : Nat => s.heap.size ≤ q) q := fun _ h => h
  have hbA : ¬ (fun q : Nat => s.heap.size ≤ q) b := Nat.not_le.mpr hbl
  obtain ⟨k, r, rm, fo2, w2, ce2, nm2, tl2, tc2, tw2, we2, wr2, T2, n2, z2, wtc2, wia2, off2, hk2, hc, hm, hrm, hans, hR2⟩ := s_commit l hl0 dC dI cA cL h0 q0 q1 q2 q3 q4 q5 o0 g0 r1 r2 r3 r4 r5 fo w ce nm tl tc tw we wr T n z wtc wia off cd  hR
  refine lv_aload_n hx hb dL_law_291 rfl (lv_at hl 1 rfl) ?_
  refine lv_aload_n hx hb dL_law_292 rfl (lv_at hl 3 rfl) ?_
  refine kc_call (Xr := wX1 cA g0 r1 r2 r3 r4 r5 ce w we wr nm n T cd off wtc wia) (n := 2) hc hx hb hml hown hts gL_law_L_commit rfl ⟨rfl, rfl⟩ ⟨by decide +kernel, by decide +kernel, by decide +kernel⟩ rfl ⟨Nat.le_of_ble_eq_true rfl, Nat.le_of_ble_eq_true rfl⟩ hK hP hD hS hA hZ hN [0, 1] [0, 1, 2, 3, 4, 5, 6, 13] [7, 8, 9, 10, 11, 12] rfl rfl rfl (by decide) (by decide) rfl (by decide) hl.1 rfl (Nat.le_of_ble_eq_true rfl) dL_law_293 hcs (fun H locs hP hD hS => ?_)
  have hP := hP.sub (ws' := wX0 cA h0 q0 q1 q2 q3 q4 q5 w2 ce2 nm2 tl2 tc2 tw2 T2 n2 z2 wtc2 wia2 off2 ++ (wX1 cA g0 r1 r2 r3 r4 r5 ce w we wr nm n T cd off wtc wia ++ wO cL o0 fo2)) [6, 7, 8, 9, 10, 11, 12, 0, 1, 2, 3, 4, 5, 13] rfl
  have hD := hD.sub (ws' := wX0 cA h0 q0 q1 q2 q3 q4 q5 w2 ce2 nm2 tl2 tc2 tw2 T2 n2 z2 wtc2 wia2 off2 ++ (wX1 cA g0 r1 r2 r3 r4 r5 ce w we wr nm n T cd off wtc wia ++ wO cL o0 fo2)) [6, 7, 8, 9, 10, 11, 12, 0, 1, 2, 3, 4, 5, 13] (by decide) rfl
  refine lv_istore (lv' := [(5, .int (nI k)), (0, .ref b), (1, .ref h0), (2, .ref g0), (3, .ref o0), (4, .int (nI (3 * j)))]) hx hb dL_law_296 hl (by decide) rfl (fun ls hl => ?_)
  refine lv_aload_n hx hb dL_law_298 rfl (lv_at hl 3 rfl) ?_
  refine kv_Vi (Xr := wX0 cA h0 q0 q1 q2 q3 q4 q5 w2 ce2 nm2 tl2 tc2 tw2 T2 n2 z2 wtc2 wia2 off2 ++ wO cL o0 fo2) (n := 0) hm hx hb hml hown hts gL_law_X1_commit rfl ⟨hrm.1, hrm.2.1⟩ ⟨rfl, by decide +kernel, by decide +kernel, by decide +kernel⟩ rfl ⟨Nat.le_trans (Nat.succ_le_succ hrm.2.2.1) (Nat.le_of_ble_eq_true rfl), Nat.le_trans (Nat.add_le_add_left hrm.2.2.2 _) (Nat.le_of_ble_eq_true rfl)⟩ hK hP hD hS hA [0] [7, 8, 9, 10, 11, 12] [0, 1, 2, 3, 4, 5, 6, 13] rfl rfl rfl (by decide) (by decide) (q0 := 0) rfl rfl rfl (by decide) hl.1 rfl (Nat.le_of_ble_eq_true rfl) dL_law_299 ⟨by have := hcs.1; show cells + 1 ≤ 1049; omega, by have := hcs.2; show slots + 6 ≤ 11870; omega⟩ (fun H locs hP hD hS => ?_)
  have hP := hP.sub (ws' := wX0 cA h0 q0 q1 q2 q3 q4 q5 w2 ce2 nm2 tl2 tc2 tw2 T2 n2 z2 wtc2 wia2 off2 ++ (wX1 cA g0 r1 r2 r3 r4 r5 ce2 w2 we2 wr2 nm2 n2 T2 (nI k) off2 wtc2 wia2 ++ wO cL o0 fo2)) [0, 1, 2, 3, 4, 5, 6, 8, 9, 10, 11, 12, 13, 7] rfl
  have hD := hD.sub (ws' := wX0 cA h0 q0 q1 q2 q3 q4 q5 w2 ce2 nm2 tl2 tc2 tw2 T2 n2 z2 wtc2 wia2 off2 ++ (wX1 cA g0 r1 r2 r3 r4 r5 ce2 w2 we2 wr2 nm2 n2 T2 (nI k) off2 wtc2 wia2 ++ wO cL o0 fo2)) [0, 1, 2, 3, 4, 5, 6, 8, 9, 10, 11, 12, 13, 7] (by decide) rfl
  refine lv_istore (lv' := [(6, .int r), (5, .int (nI k)), (0, .ref b), (1, .ref h0), (2, .ref g0), (3, .ref o0), (4, .int (nI (3 * j)))]) hx hb dL_law_302 hl (by decide) rfl (fun ls hl => ?_)
  refine lv_aload_n hx hb dL_law_304 rfl (lv_at hl 4 rfl) ?_
  refine kv_Vi (Xr := wX0 cA h0 q0 q1 q2 q3 q4 q5 w2 ce2 nm2 tl2 tc2 tw2 T2 n2 z2 wtc2 wia2 off2 ++ wO cL o0 fo2) (n := 0) (c_X1_thrown l dC dI cA g0 r1 r2 r3 r4 r5 ce2 w2 we2 wr2 nm2 n2 T2 (nI k) off2 wtc2 wia2) hx hb hml hown hts gL_law_X1_thrown rfl ⟨rfl, rfl⟩ ⟨rfl, by decide +kernel, by decide +kernel, by decide +kernel⟩ rfl ⟨Nat.le_of_ble_eq_true rfl, Nat.le_of_ble_eq_true rfl⟩ hK hP hD hS hA [0] [7, 8, 9, 10, 11, 12] [0, 1, 2, 3, 4, 5, 6, 13] rfl rfl rfl (by decide) (by decide) (q0 := 0) rfl rfl rfl (by decide) hl.1 rfl (Nat.le_of_ble_eq_true rfl) dL_law_305 ⟨by have := hcs.1; show cells + 1 ≤ 1049; omega, by have := hcs.2; show slots + 6 ≤ 11870; omega⟩ (fun H locs hP hD hS => ?_)
  have hP := hP.sub (ws' := wX0 cA h0 q0 q1 q2 q3 q4 q5 w2 ce2 nm2 tl2 tc2 tw2 T2 n2 z2 wtc2 wia2 off2 ++ (wX1 cA g0 r1 r2 r3 r4 r5 ce2 w2 we2 wr2 nm2 n2 T2 (nI k) off2 wtc2 wia2 ++ wO cL o0 fo2)) [0, 1, 2, 3, 4, 5, 6, 8, 9, 10, 11, 12, 13, 7] rfl
  have hD := hD.sub (ws' := wX0 cA h0 q0 q1 q2 q3 q4 q5 w2 ce2 nm2 tl2 tc2 tw2 T2 n2 z2 wtc2 wia2 off2 ++ (wX1 cA g0 r1 r2 r3 r4 r5 ce2 w2 we2 wr2 nm2 n2 T2 (nI k) off2 wtc2 wia2 ++ wO cL o0 fo2)) [0, 1, 2, 3, 4, 5, 6, 8, 9, 10, 11, 12, 13, 7] (by decide) rfl
  refine lv_iload hx hb dL_law_308 (lv_at hl 1 rfl) ?_
  refine lv_icmp_eq (tgt := 315) hx hb dL_law_310 (by decide) (fun _ => ?_) (fun h9 => absurd rfl h9)
  refine lv_iload hx hb dL_law_315 (lv_at hl 1 rfl) ?_
  refine kv_if_ne (tgt := 332) hx hb (by omega) dL_law_317 (by decide) (fun h9 => ?_) (fun h9 => ?_)
  · refine lv_goto (tgt := 831) hx hb dL_law_332 (by decide) ?_
    exact hnext _ _ _ _ _ _ _ _ _ _ _ _ _ _ _ _ hR2 H locs hP hD hS ls (lv_sub hl [2, 3, 4, 5, 6] rfl)
  refine lv_aload_n hx hb dL_law_320 rfl (lv_at hl 5 rfl) ?_
  refine lv_iconst (v := (nI 0)) hx hb dL_law_321 (by decide) ?_
  refine va_lald (D := (dC, dI)) hx hb hK hP 13 1 rfl rfl ko_in dL_law_322 ?_
  refine kv_top (w := .long (r.toInt64)) (congrArg Value.long (hans h9)) ?_
  refine lv_iload hx hb dL_law_323 (lv_at hl 0 rfl) ?_
  refine lv_i2l hx hb dL_law_325 rfl ?_
  refine W.lcmp hx hb dL_law_326 ?_
  refine kv_top (w := .int (nI 0)) (congrArg Value.int (kl_cmp _)) ?_
  refine kv_if_eq (tgt := 332) hx hb (by omega) dL_law_327 (by decide) (fun _ => ?_) (fun h8 => absurd h8 (by omega))
  refine lv_goto (tgt := 831) hx hb dL_law_332 (by decide) ?_
  exact hnext _ _ _ _ _ _ _ _ _ _ _ _ _ _ _ _ hR2 H locs hP hD hS ls (lv_sub hl [2, 3, 4, 5, 6] rfl)
set_option maxHeartbeats 4000000 in
set_option maxRecDepth 100000 in
theorem w_abort {p : Program} {l : Launch} {e : Env} {s : State} {m : MethodId} {below : List Frame} {meth : Method} {c : Code} (dC : Nat → ClassId) (dI : Nat → Nat → Nat) {b L : Nat} {xs : Nat → Int32} (hl0 : l.stackTraces = false) (hL : L ≤ 1536) (C0 : lw_At p s m meth c b L xs) (cA cL : ClassId) (h0 q0 q1 q2 q3 q4 q5 g0 r1 r2 r3 r4 r5 o0 : Nat) (hK : va_K (dC, dI) vwCl [(cA, .int), (cL, .long)] s) (hZ : kZ (fun q : Nat => s.heap.size ≤ q) s) (hN : va_Nc kISE kIAE s) (j : Nat) (hj : 3 * j + 3 ≤ L) (cells slots : Nat) (hcs : cells + 1 ≤ 1049 ∧ slots + 6 ≤ 11870) (hnext : kGo p l e s m below meth c dC dI b cA cL h0 q0 q1 q2 q3 q4 q5 g0 r1 r2 r3 r4 r5 o0 j (cells + 1) (slots + 6) 831) : kGo p l e s m below meth c dC dI b cA cL h0 q0 q1 q2 q3 q4 q5 g0 r1 r2 r3 r4 r5 o0 j cells slots 335 := by
  intro fo w ce nm tl tc tw we wr T n z wtc wia off cd hR H locs hP hD hS ls hl
  obtain ⟨hx, hb, hr, hml, hown, hts0, hX, hbl, hlocks, hgv⟩ := id C0
  have hts : ∀ w ∈ wsL_law, w.before #[Value.ref b] s = true := fun w h => hts0 w (wsL_law_in w h)
  have hA : ∀ q : Nat, s.heap.size ≤ q → (fun q : Nat => s.heap.size ≤ q) q := fun _ h => h
  have hbA : ¬ (fun q : Nat => s.heap.size ≤ q) b := Nat.not_le.mpr hbl
  obtain ⟨k, r, rm, fo2, w2, ce2, nm2, tl2, tc2, tw2, we2, wr2, T2, n2, z2, wtc2, wia2, off2, hk2, hc, hm, hrm, hans, hR2⟩ := s_abort l hl0 dC dI cA cL h0 q0 q1 q2 q3 q4 q5 o0 g0 r1 r2 r3 r4 r5 fo w ce nm tl tc tw we wr T n z wtc wia off cd  hR
  refine lv_aload_n hx hb dL_law_335 rfl (lv_at hl 1 rfl) ?_
  refine lv_aload_n hx hb dL_law_336 rfl (lv_at hl 3 rfl) ?_
  refine kc_call (Xr := wX1 cA g0 r1 r2 r3 r4 r5 ce w we wr nm n T cd off wtc wia) (n := 2) hc hx hb hml hown hts gL_law_L_abort rfl ⟨rfl, rfl⟩ ⟨by decide +kernel, by decide +kernel, by decide +kernel⟩ rfl ⟨Nat.le_of_ble_eq_true rfl, Nat.le_of_ble_eq_true rfl⟩ hK hP hD hS hA hZ hN [0, 1] [0, 1, 2, 3, 4, 5, 6, 13] [7, 8, 9, 10, 11, 12] rfl rfl rfl (by decide) (by decide) rfl (by decide) hl.1 rfl (Nat.le_of_ble_eq_true rfl) dL_law_337 hcs (fun H locs hP hD hS => ?_)
  have hP := hP.sub (ws' := wX0 cA h0 q0 q1 q2 q3 q4 q5 w2 ce2 nm2 tl2 tc2 tw2 T2 n2 z2 wtc2 wia2 off2 ++ (wX1 cA g0 r1 r2 r3 r4 r5 ce w we wr nm n T cd off wtc wia ++ wO cL o0 fo2)) [6, 7, 8, 9, 10, 11, 12, 0, 1, 2, 3, 4, 5, 13] rfl
  have hD := hD.sub (ws' := wX0 cA h0 q0 q1 q2 q3 q4 q5 w2 ce2 nm2 tl2 tc2 tw2 T2 n2 z2 wtc2 wia2 off2 ++ (wX1 cA g0 r1 r2 r3 r4 r5 ce w we wr nm n T cd off wtc wia ++ wO cL o0 fo2)) [6, 7, 8, 9, 10, 11, 12, 0, 1, 2, 3, 4, 5, 13] (by decide) rfl
  refine lv_istore (lv' := [(5, .int (nI k)), (0, .ref b), (1, .ref h0), (2, .ref g0), (3, .ref o0), (4, .int (nI (3 * j)))]) hx hb dL_law_340 hl (by decide) rfl (fun ls hl => ?_)
  refine lv_aload_n hx hb dL_law_342 rfl (lv_at hl 3 rfl) ?_
  refine kv_Vi (Xr := wX0 cA h0 q0 q1 q2 q3 q4 q5 w2 ce2 nm2 tl2 tc2 tw2 T2 n2 z2 wtc2 wia2 off2 ++ wO cL o0 fo2) (n := 0) hm hx hb hml hown hts gL_law_X1_abort rfl ⟨hrm.1, hrm.2.1⟩ ⟨rfl, by decide +kernel, by decide +kernel, by decide +kernel⟩ rfl ⟨Nat.le_trans (Nat.succ_le_succ hrm.2.2.1) (Nat.le_of_ble_eq_true rfl), Nat.le_trans (Nat.add_le_add_left hrm.2.2.2 _) (Nat.le_of_ble_eq_true rfl)⟩ hK hP hD hS hA [0] [7, 8, 9, 10, 11, 12] [0, 1, 2, 3, 4, 5, 6, 13] rfl rfl rfl (by decide) (by decide) (q0 := 0) rfl rfl rfl (by decide) hl.1 rfl (Nat.le_of_ble_eq_true rfl) dL_law_343 ⟨by have := hcs.1; show cells + 1 ≤ 1049; omega, by have := hcs.2; show slots + 6 ≤ 11870; omega⟩ (fun H locs hP hD hS => ?_)
  have hP := hP.sub (ws' := wX0 cA h0 q0 q1 q2 q3 q4 q5 w2 ce2 nm2 tl2 tc2 tw2 T2 n2 z2 wtc2 wia2 off2 ++ (wX1 cA g0 r1 r2 r3 r4 r5 ce2 w2 we2 wr2 nm2 n2 T2 (nI k) off2 wtc2 wia2 ++ wO cL o0 fo2)) [0, 1, 2, 3, 4, 5, 6, 8, 9, 10, 11, 12, 13, 7] rfl
  have hD := hD.sub (ws' := wX0 cA h0 q0 q1 q2 q3 q4 q5 w2 ce2 nm2 tl2 tc2 tw2 T2 n2 z2 wtc2 wia2 off2 ++ (wX1 cA g0 r1 r2 r3 r4 r5 ce2 w2 we2 wr2 nm2 n2 T2 (nI k) off2 wtc2 wia2 ++ wO cL o0 fo2)) [0, 1, 2, 3, 4, 5, 6, 8, 9, 10, 11, 12, 13, 7] (by decide) rfl
  refine lv_istore (lv' := [(6, .int r), (5, .int (nI k)), (0, .ref b), (1, .ref h0), (2, .ref g0), (3, .ref o0), (4, .int (nI (3 * j)))]) hx hb dL_law_346 hl (by decide) rfl (fun ls hl => ?_)
  refine lv_aload_n hx hb dL_law_348 rfl (lv_at hl 4 rfl) ?_
  refine kv_Vi (Xr := wX0 cA h0 q0 q1 q2 q3 q4 q5 w2 ce2 nm2 tl2 tc2 tw2 T2 n2 z2 wtc2 wia2 off2 ++ wO cL o0 fo2) (n := 0) (c_X1_thrown l dC dI cA g0 r1 r2 r3 r4 r5 ce2 w2 we2 wr2 nm2 n2 T2 (nI k) off2 wtc2 wia2) hx hb hml hown hts gL_law_X1_thrown rfl ⟨rfl, rfl⟩ ⟨rfl, by decide +kernel, by decide +kernel, by decide +kernel⟩ rfl ⟨Nat.le_of_ble_eq_true rfl, Nat.le_of_ble_eq_true rfl⟩ hK hP hD hS hA [0] [7, 8, 9, 10, 11, 12] [0, 1, 2, 3, 4, 5, 6, 13] rfl rfl rfl (by decide) (by decide) (q0 := 0) rfl rfl rfl (by decide) hl.1 rfl (Nat.le_of_ble_eq_true rfl) dL_law_349 ⟨by have := hcs.1; show cells + 1 ≤ 1049; omega, by have := hcs.2; show slots + 6 ≤ 11870; omega⟩ (fun H locs hP hD hS => ?_)
  have hP := hP.sub (ws' := wX0 cA h0 q0 q1 q2 q3 q4 q5 w2 ce2 nm2 tl2 tc2 tw2 T2 n2 z2 wtc2 wia2 off2 ++ (wX1 cA g0 r1 r2 r3 r4 r5 ce2 w2 we2 wr2 nm2 n2 T2 (nI k) off2 wtc2 wia2 ++ wO cL o0 fo2)) [0, 1, 2, 3, 4, 5, 6, 8, 9, 10, 11, 12, 13, 7] rfl
  have hD := hD.sub (ws' := wX0 cA h0 q0 q1 q2 q3 q4 q5 w2 ce2 nm2 tl2 tc2 tw2 T2 n2 z2 wtc2 wia2 off2 ++ (wX1 cA g0 r1 r2 r3 r4 r5 ce2 w2 we2 wr2 nm2 n2 T2 (nI k) off2 wtc2 wia2 ++ wO cL o0 fo2)) [0, 1, 2, 3, 4, 5, 6, 8, 9, 10, 11, 12, 13, 7] (by decide) rfl
  refine lv_iload hx hb dL_law_352 (lv_at hl 1 rfl) ?_
  refine lv_icmp_eq (tgt := 359) hx hb dL_law_354 (by decide) (fun _ => ?_) (fun h9 => absurd rfl h9)
  refine lv_iload hx hb dL_law_359 (lv_at hl 1 rfl) ?_
  refine kv_if_ne (tgt := 376) hx hb (by omega) dL_law_361 (by decide) (fun h9 => ?_) (fun h9 => ?_)
  · refine lv_goto (tgt := 831) hx hb dL_law_376 (by decide) ?_
    exact hnext _ _ _ _ _ _ _ _ _ _ _ _ _ _ _ _ hR2 H locs hP hD hS ls (lv_sub hl [2, 3, 4, 5, 6] rfl)
  refine lv_aload_n hx hb dL_law_364 rfl (lv_at hl 5 rfl) ?_
  refine lv_iconst (v := (nI 0)) hx hb dL_law_365 (by decide) ?_
  refine va_lald (D := (dC, dI)) hx hb hK hP 13 1 rfl rfl ko_in dL_law_366 ?_
  refine kv_top (w := .long (r.toInt64)) (congrArg Value.long (hans h9)) ?_
  refine lv_iload hx hb dL_law_367 (lv_at hl 0 rfl) ?_
  refine lv_i2l hx hb dL_law_369 rfl ?_
  refine W.lcmp hx hb dL_law_370 ?_
  refine kv_top (w := .int (nI 0)) (congrArg Value.int (kl_cmp _)) ?_
  refine kv_if_eq (tgt := 376) hx hb (by omega) dL_law_371 (by decide) (fun _ => ?_) (fun h8 => absurd h8 (by omega))
  refine lv_goto (tgt := 831) hx hb dL_law_376 (by decide) ?_
  exact hnext _ _ _ _ _ _ _ _ _ _ _ _ _ _ _ _ hR2 H locs hP hD hS ls (lv_sub hl [2, 3, 4, 5, 6] rfl)
set_option maxHeartbeats 4000000 in
set_option maxRecDepth 100000 in
theorem w_point {p : Program} {l : Launch} {e : Env} {s : State} {m : MethodId} {below : List Frame} {meth : Method} {c : Code} (dC : Nat → ClassId) (dI : Nat → Nat → Nat) {b L : Nat} {xs : Nat → Int32} (hl0 : l.stackTraces = false) (hL : L ≤ 1536) (C0 : lw_At p s m meth c b L xs) (cA cL : ClassId) (h0 q0 q1 q2 q3 q4 q5 g0 r1 r2 r3 r4 r5 o0 : Nat) (hK : va_K (dC, dI) vwCl [(cA, .int), (cL, .long)] s) (hZ : kZ (fun q : Nat => s.heap.size ≤ q) s) (hN : va_Nc kISE kIAE s) (j : Nat) (hj : 3 * j + 3 ≤ L) (cells slots : Nat) (hcs : cells + 1 ≤ 1049 ∧ slots + 6 ≤ 11870) (hnext : kGo p l e s m below meth c dC dI b cA cL h0 q0 q1 q2 q3 q4 q5 g0 r1 r2 r3 r4 r5 o0 j (cells + 1) (slots + 6) 831) : kGo p l e s m below meth c dC dI b cA cL h0 q0 q1 q2 q3 q4 q5 g0 r1 r2 r3 r4 r5 o0 j cells slots 379 := by
  intro fo w ce nm tl tc tw we wr T n z wtc wia off cd hR H locs hP hD hS ls hl
  obtain ⟨hx, hb, hr, hml, hown, hts0, hX, hbl, hlocks, hgv⟩ := id C0
  have hts : ∀ w ∈ wsL_law, w.before #[Value.ref b] s = true := fun w h => hts0 w (wsL_law_in w h)
  have hA : ∀ q : Nat, s.heap.size ≤ q → (fun q : Nat => s.heap.size ≤ q) q := fun _ h => h
  have hbA : ¬ (fun q : Nat => s.heap.size ≤ q) b := Nat.not_le.mpr hbl
  obtain ⟨k, r, rm, fo2, w2, ce2, nm2, tl2, tc2, tw2, we2, wr2, T2, n2, z2, wtc2, wia2, off2, hk2, hc, hm, hrm, hans, hR2⟩ := s_point l hl0 dC dI cA cL h0 q0 q1 q2 q3 q4 q5 o0 g0 r1 r2 r3 r4 r5 fo w ce nm tl tc tw we wr T n z wtc wia off cd (xs (3 * j + 1)) hR
  refine lv_aload_n hx hb dL_law_379 rfl (lv_at hl 1 rfl) ?_
  refine lv_aload_n hx hb dL_law_380 rfl (lv_at hl 0 rfl) ?_
  refine lv_iload hx hb dL_law_381 (lv_at hl 4 rfl) ?_
  refine lv_iconst (v := (nI 1)) hx hb dL_law_383 (by decide) ?_
  refine kv_addE (d := 3 * j + 1) hx hb (by omega) dL_law_384 ?_
  refine kv_sld hx hb hX hbl hbA hS (t := (3 * j + 1)) (by omega) (by omega) dL_law_385 ?_
  refine lv_aload_n hx hb dL_law_386 rfl (lv_at hl 3 rfl) ?_
  refine kc_call (Xr := wX1 cA g0 r1 r2 r3 r4 r5 ce w we wr nm n T cd off wtc wia) (n := 3) hc hx hb hml hown hts gL_law_L_point rfl ⟨rfl, rfl⟩ ⟨by decide +kernel, by decide +kernel, by decide +kernel⟩ rfl ⟨Nat.le_of_ble_eq_true rfl, Nat.le_of_ble_eq_true rfl⟩ hK hP hD hS hA hZ hN [0, 1] [0, 1, 2, 3, 4, 5, 6, 13] [7, 8, 9, 10, 11, 12] rfl rfl rfl (by decide) (by decide) rfl (by decide) hl.1 rfl (Nat.le_of_ble_eq_true rfl) dL_law_387 hcs (fun H locs hP hD hS => ?_)
  have hP := hP.sub (ws' := wX0 cA h0 q0 q1 q2 q3 q4 q5 w2 ce2 nm2 tl2 tc2 tw2 T2 n2 z2 wtc2 wia2 off2 ++ (wX1 cA g0 r1 r2 r3 r4 r5 ce w we wr nm n T cd off wtc wia ++ wO cL o0 fo2)) [6, 7, 8, 9, 10, 11, 12, 0, 1, 2, 3, 4, 5, 13] rfl
  have hD := hD.sub (ws' := wX0 cA h0 q0 q1 q2 q3 q4 q5 w2 ce2 nm2 tl2 tc2 tw2 T2 n2 z2 wtc2 wia2 off2 ++ (wX1 cA g0 r1 r2 r3 r4 r5 ce w we wr nm n T cd off wtc wia ++ wO cL o0 fo2)) [6, 7, 8, 9, 10, 11, 12, 0, 1, 2, 3, 4, 5, 13] (by decide) rfl
  refine lv_istore (lv' := [(5, .int (nI k)), (0, .ref b), (1, .ref h0), (2, .ref g0), (3, .ref o0), (4, .int (nI (3 * j)))]) hx hb dL_law_390 hl (by decide) rfl (fun ls hl => ?_)
  refine lv_aload_n hx hb dL_law_392 rfl (lv_at hl 3 rfl) ?_
  refine lv_aload_n hx hb dL_law_393 rfl (lv_at hl 1 rfl) ?_
  refine lv_iload hx hb dL_law_394 (lv_at hl 5 rfl) ?_
  refine lv_iconst (v := (nI 1)) hx hb dL_law_396 (by decide) ?_
  refine kv_addE (d := 3 * j + 1) hx hb (by omega) dL_law_397 ?_
  refine kv_sld hx hb hX hbl hbA hS (t := (3 * j + 1)) (by omega) (by omega) dL_law_398 ?_
  refine kv_Vi (Xr := wX0 cA h0 q0 q1 q2 q3 q4 q5 w2 ce2 nm2 tl2 tc2 tw2 T2 n2 z2 wtc2 wia2 off2 ++ wO cL o0 fo2) (n := 1) hm hx hb hml hown hts gL_law_X1_point rfl ⟨hrm.1, hrm.2.1⟩ ⟨rfl, by decide +kernel, by decide +kernel, by decide +kernel⟩ rfl ⟨Nat.le_trans (Nat.succ_le_succ hrm.2.2.1) (Nat.le_of_ble_eq_true rfl), Nat.le_trans (Nat.add_le_add_left hrm.2.2.2 _) (Nat.le_of_ble_eq_true rfl)⟩ hK hP hD hS hA [0] [7, 8, 9, 10, 11, 12] [0, 1, 2, 3, 4, 5, 6, 13] rfl rfl rfl (by decide) (by decide) (q0 := 0) rfl rfl rfl (by decide) hl.1 rfl (Nat.le_of_ble_eq_true rfl) dL_law_399 ⟨by have := hcs.1; show cells + 1 ≤ 1049; omega, by have := hcs.2; show slots + 6 ≤ 11870; omega⟩ (fun H locs hP hD hS => ?_)
  have hP := hP.sub (ws' := wX0 cA h0 q0 q1 q2 q3 q4 q5 w2 ce2 nm2 tl2 tc2 tw2 T2 n2 z2 wtc2 wia2 off2 ++ (wX1 cA g0 r1 r2 r3 r4 r5 ce2 w2 we2 wr2 nm2 n2 T2 (nI k) off2 wtc2 wia2 ++ wO cL o0 fo2)) [0, 1, 2, 3, 4, 5, 6, 8, 9, 10, 11, 12, 13, 7] rfl
  have hD := hD.sub (ws' := wX0 cA h0 q0 q1 q2 q3 q4 q5 w2 ce2 nm2 tl2 tc2 tw2 T2 n2 z2 wtc2 wia2 off2 ++ (wX1 cA g0 r1 r2 r3 r4 r5 ce2 w2 we2 wr2 nm2 n2 T2 (nI k) off2 wtc2 wia2 ++ wO cL o0 fo2)) [0, 1, 2, 3, 4, 5, 6, 8, 9, 10, 11, 12, 13, 7] (by decide) rfl
  refine lv_istore (lv' := [(6, .int r), (5, .int (nI k)), (0, .ref b), (1, .ref h0), (2, .ref g0), (3, .ref o0), (4, .int (nI (3 * j)))]) hx hb dL_law_402 hl (by decide) rfl (fun ls hl => ?_)
  refine lv_aload_n hx hb dL_law_404 rfl (lv_at hl 4 rfl) ?_
  refine kv_Vi (Xr := wX0 cA h0 q0 q1 q2 q3 q4 q5 w2 ce2 nm2 tl2 tc2 tw2 T2 n2 z2 wtc2 wia2 off2 ++ wO cL o0 fo2) (n := 0) (c_X1_thrown l dC dI cA g0 r1 r2 r3 r4 r5 ce2 w2 we2 wr2 nm2 n2 T2 (nI k) off2 wtc2 wia2) hx hb hml hown hts gL_law_X1_thrown rfl ⟨rfl, rfl⟩ ⟨rfl, by decide +kernel, by decide +kernel, by decide +kernel⟩ rfl ⟨Nat.le_of_ble_eq_true rfl, Nat.le_of_ble_eq_true rfl⟩ hK hP hD hS hA [0] [7, 8, 9, 10, 11, 12] [0, 1, 2, 3, 4, 5, 6, 13] rfl rfl rfl (by decide) (by decide) (q0 := 0) rfl rfl rfl (by decide) hl.1 rfl (Nat.le_of_ble_eq_true rfl) dL_law_405 ⟨by have := hcs.1; show cells + 1 ≤ 1049; omega, by have := hcs.2; show slots + 6 ≤ 11870; omega⟩ (fun H locs hP hD hS => ?_)
  have hP := hP.sub (ws' := wX0 cA h0 q0 q1 q2 q3 q4 q5 w2 ce2 nm2 tl2 tc2 tw2 T2 n2 z2 wtc2 wia2 off2 ++ (wX1 cA g0 r1 r2 r3 r4 r5 ce2 w2 we2 wr2 nm2 n2 T2 (nI k) off2 wtc2 wia2 ++ wO cL o0 fo2)) [0, 1, 2, 3, 4, 5, 6, 8, 9, 10, 11, 12, 13, 7] rfl
  have hD := hD.sub (ws' := wX0 cA h0 q0 q1 q2 q3 q4 q5 w2 ce2 nm2 tl2 tc2 tw2 T2 n2 z2 wtc2 wia2 off2 ++ (wX1 cA g0 r1 r2 r3 r4 r5 ce2 w2 we2 wr2 nm2 n2 T2 (nI k) off2 wtc2 wia2 ++ wO cL o0 fo2)) [0, 1, 2, 3, 4, 5, 6, 8, 9, 10, 11, 12, 13, 7] (by decide) rfl
  refine lv_iload hx hb dL_law_408 (lv_at hl 1 rfl) ?_
  refine lv_icmp_eq (tgt := 415) hx hb dL_law_410 (by decide) (fun _ => ?_) (fun h9 => absurd rfl h9)
  refine lv_iload hx hb dL_law_415 (lv_at hl 1 rfl) ?_
  refine kv_if_ne (tgt := 432) hx hb (by omega) dL_law_417 (by decide) (fun h9 => ?_) (fun h9 => ?_)
  · refine lv_goto (tgt := 831) hx hb dL_law_432 (by decide) ?_
    exact hnext _ _ _ _ _ _ _ _ _ _ _ _ _ _ _ _ hR2 H locs hP hD hS ls (lv_sub hl [2, 3, 4, 5, 6] rfl)
  refine lv_aload_n hx hb dL_law_420 rfl (lv_at hl 5 rfl) ?_
  refine lv_iconst (v := (nI 0)) hx hb dL_law_421 (by decide) ?_
  refine va_lald (D := (dC, dI)) hx hb hK hP 13 1 rfl rfl ko_in dL_law_422 ?_
  refine kv_top (w := .long (r.toInt64)) (congrArg Value.long (hans h9)) ?_
  refine lv_iload hx hb dL_law_423 (lv_at hl 0 rfl) ?_
  refine lv_i2l hx hb dL_law_425 rfl ?_
  refine W.lcmp hx hb dL_law_426 ?_
  refine kv_top (w := .int (nI 0)) (congrArg Value.int (kl_cmp _)) ?_
  refine kv_if_eq (tgt := 432) hx hb (by omega) dL_law_427 (by decide) (fun _ => ?_) (fun h8 => absurd h8 (by omega))
  refine lv_goto (tgt := 831) hx hb dL_law_432 (by decide) ?_
  exact hnext _ _ _ _ _ _ _ _ _ _ _ _ _ _ _ _ hR2 H locs hP hD hS ls (lv_sub hl [2, 3, 4, 5, 6] rfl)
set_option maxHeartbeats 4000000 in
set_option maxRecDepth 100000 in
theorem w_back {p : Program} {l : Launch} {e : Env} {s : State} {m : MethodId} {below : List Frame} {meth : Method} {c : Code} (dC : Nat → ClassId) (dI : Nat → Nat → Nat) {b L : Nat} {xs : Nat → Int32} (hl0 : l.stackTraces = false) (hL : L ≤ 1536) (C0 : lw_At p s m meth c b L xs) (cA cL : ClassId) (h0 q0 q1 q2 q3 q4 q5 g0 r1 r2 r3 r4 r5 o0 : Nat) (hK : va_K (dC, dI) vwCl [(cA, .int), (cL, .long)] s) (hZ : kZ (fun q : Nat => s.heap.size ≤ q) s) (hN : va_Nc kISE kIAE s) (j : Nat) (hj : 3 * j + 3 ≤ L) (cells slots : Nat) (hcs : cells + 1 ≤ 1049 ∧ slots + 6 ≤ 11870) (hnext : kGo p l e s m below meth c dC dI b cA cL h0 q0 q1 q2 q3 q4 q5 g0 r1 r2 r3 r4 r5 o0 j (cells + 1) (slots + 6) 831) : kGo p l e s m below meth c dC dI b cA cL h0 q0 q1 q2 q3 q4 q5 g0 r1 r2 r3 r4 r5 o0 j cells slots 435 := by
  intro fo w ce nm tl tc tw we wr T n z wtc wia off cd hR H locs hP hD hS ls hl
  obtain ⟨hx, hb, hr, hml, hown, hts0, hX, hbl, hlocks, hgv⟩ := id C0
  have hts : ∀ w ∈ wsL_law, w.before #[Value.ref b] s = true := fun w h => hts0 w (wsL_law_in w h)
  have hA : ∀ q : Nat, s.heap.size ≤ q → (fun q : Nat => s.heap.size ≤ q) q := fun _ h => h
  have hbA : ¬ (fun q : Nat => s.heap.size ≤ q) b := Nat.not_le.mpr hbl
  obtain ⟨k, r, rm, fo2, w2, ce2, nm2, tl2, tc2, tw2, we2, wr2, T2, n2, z2, wtc2, wia2, off2, hk2, hc, hm, hrm, hans, hR2⟩ := s_back l hl0 dC dI cA cL h0 q0 q1 q2 q3 q4 q5 o0 g0 r1 r2 r3 r4 r5 fo w ce nm tl tc tw we wr T n z wtc wia off cd (xs (3 * j + 1)) hR
  refine lv_aload_n hx hb dL_law_435 rfl (lv_at hl 1 rfl) ?_
  refine lv_aload_n hx hb dL_law_436 rfl (lv_at hl 0 rfl) ?_
  refine lv_iload hx hb dL_law_437 (lv_at hl 4 rfl) ?_
  refine lv_iconst (v := (nI 1)) hx hb dL_law_439 (by decide) ?_
  refine kv_addE (d := 3 * j + 1) hx hb (by omega) dL_law_440 ?_
  refine kv_sld hx hb hX hbl hbA hS (t := (3 * j + 1)) (by omega) (by omega) dL_law_441 ?_
  refine lv_aload_n hx hb dL_law_442 rfl (lv_at hl 3 rfl) ?_
  refine kc_call (Xr := wX1 cA g0 r1 r2 r3 r4 r5 ce w we wr nm n T cd off wtc wia) (n := 3) hc hx hb hml hown hts gL_law_L_back rfl ⟨rfl, rfl⟩ ⟨by decide +kernel, by decide +kernel, by decide +kernel⟩ rfl ⟨Nat.le_of_ble_eq_true rfl, Nat.le_of_ble_eq_true rfl⟩ hK hP hD hS hA hZ hN [0, 1] [0, 1, 2, 3, 4, 5, 6, 13] [7, 8, 9, 10, 11, 12] rfl rfl rfl (by decide) (by decide) rfl (by decide) hl.1 rfl (Nat.le_of_ble_eq_true rfl) dL_law_443 hcs (fun H locs hP hD hS => ?_)
  have hP := hP.sub (ws' := wX0 cA h0 q0 q1 q2 q3 q4 q5 w2 ce2 nm2 tl2 tc2 tw2 T2 n2 z2 wtc2 wia2 off2 ++ (wX1 cA g0 r1 r2 r3 r4 r5 ce w we wr nm n T cd off wtc wia ++ wO cL o0 fo2)) [6, 7, 8, 9, 10, 11, 12, 0, 1, 2, 3, 4, 5, 13] rfl
  have hD := hD.sub (ws' := wX0 cA h0 q0 q1 q2 q3 q4 q5 w2 ce2 nm2 tl2 tc2 tw2 T2 n2 z2 wtc2 wia2 off2 ++ (wX1 cA g0 r1 r2 r3 r4 r5 ce w we wr nm n T cd off wtc wia ++ wO cL o0 fo2)) [6, 7, 8, 9, 10, 11, 12, 0, 1, 2, 3, 4, 5, 13] (by decide) rfl
  refine lv_istore (lv' := [(5, .int (nI k)), (0, .ref b), (1, .ref h0), (2, .ref g0), (3, .ref o0), (4, .int (nI (3 * j)))]) hx hb dL_law_446 hl (by decide) rfl (fun ls hl => ?_)
  refine lv_aload_n hx hb dL_law_448 rfl (lv_at hl 3 rfl) ?_
  refine lv_aload_n hx hb dL_law_449 rfl (lv_at hl 1 rfl) ?_
  refine lv_iload hx hb dL_law_450 (lv_at hl 5 rfl) ?_
  refine lv_iconst (v := (nI 1)) hx hb dL_law_452 (by decide) ?_
  refine kv_addE (d := 3 * j + 1) hx hb (by omega) dL_law_453 ?_
  refine kv_sld hx hb hX hbl hbA hS (t := (3 * j + 1)) (by omega) (by omega) dL_law_454 ?_
  refine kv_Vi (Xr := wX0 cA h0 q0 q1 q2 q3 q4 q5 w2 ce2 nm2 tl2 tc2 tw2 T2 n2 z2 wtc2 wia2 off2 ++ wO cL o0 fo2) (n := 1) hm hx hb hml hown hts gL_law_X1_back rfl ⟨hrm.1, hrm.2.1⟩ ⟨rfl, by decide +kernel, by decide +kernel, by decide +kernel⟩ rfl ⟨Nat.le_trans (Nat.succ_le_succ hrm.2.2.1) (Nat.le_of_ble_eq_true rfl), Nat.le_trans (Nat.add_le_add_left hrm.2.2.2 _) (Nat.le_of_ble_eq_true rfl)⟩ hK hP hD hS hA [0] [7, 8, 9, 10, 11, 12] [0, 1, 2, 3, 4, 5, 6, 13] rfl rfl rfl (by decide) (by decide) (q0 := 0) rfl rfl rfl (by decide) hl.1 rfl (Nat.le_of_ble_eq_true rfl) dL_law_455 ⟨by have := hcs.1; show cells + 1 ≤ 1049; omega, by have := hcs.2; show slots + 6 ≤ 11870; omega⟩ (fun H locs hP hD hS => ?_)
  have hP := hP.sub (ws' := wX0 cA h0 q0 q1 q2 q3 q4 q5 w2 ce2 nm2 tl2 tc2 tw2 T2 n2 z2 wtc2 wia2 off2 ++ (wX1 cA g0 r1 r2 r3 r4 r5 ce2 w2 we2 wr2 nm2 n2 T2 (nI k) off2 wtc2 wia2 ++ wO cL o0 fo2)) [0, 1, 2, 3, 4, 5, 6, 8, 9, 10, 11, 12, 13, 7] rfl
  have hD := hD.sub (ws' := wX0 cA h0 q0 q1 q2 q3 q4 q5 w2 ce2 nm2 tl2 tc2 tw2 T2 n2 z2 wtc2 wia2 off2 ++ (wX1 cA g0 r1 r2 r3 r4 r5 ce2 w2 we2 wr2 nm2 n2 T2 (nI k) off2 wtc2 wia2 ++ wO cL o0 fo2)) [0, 1, 2, 3, 4, 5, 6, 8, 9, 10, 11, 12, 13, 7] (by decide) rfl
  refine lv_istore (lv' := [(6, .int r), (5, .int (nI k)), (0, .ref b), (1, .ref h0), (2, .ref g0), (3, .ref o0), (4, .int (nI (3 * j)))]) hx hb dL_law_458 hl (by decide) rfl (fun ls hl => ?_)
  refine lv_aload_n hx hb dL_law_460 rfl (lv_at hl 4 rfl) ?_
  refine kv_Vi (Xr := wX0 cA h0 q0 q1 q2 q3 q4 q5 w2 ce2 nm2 tl2 tc2 tw2 T2 n2 z2 wtc2 wia2 off2 ++ wO cL o0 fo2) (n := 0) (c_X1_thrown l dC dI cA g0 r1 r2 r3 r4 r5 ce2 w2 we2 wr2 nm2 n2 T2 (nI k) off2 wtc2 wia2) hx hb hml hown hts gL_law_X1_thrown rfl ⟨rfl, rfl⟩ ⟨rfl, by decide +kernel, by decide +kernel, by decide +kernel⟩ rfl ⟨Nat.le_of_ble_eq_true rfl, Nat.le_of_ble_eq_true rfl⟩ hK hP hD hS hA [0] [7, 8, 9, 10, 11, 12] [0, 1, 2, 3, 4, 5, 6, 13] rfl rfl rfl (by decide) (by decide) (q0 := 0) rfl rfl rfl (by decide) hl.1 rfl (Nat.le_of_ble_eq_true rfl) dL_law_461 ⟨by have := hcs.1; show cells + 1 ≤ 1049; omega, by have := hcs.2; show slots + 6 ≤ 11870; omega⟩ (fun H locs hP hD hS => ?_)
  have hP := hP.sub (ws' := wX0 cA h0 q0 q1 q2 q3 q4 q5 w2 ce2 nm2 tl2 tc2 tw2 T2 n2 z2 wtc2 wia2 off2 ++ (wX1 cA g0 r1 r2 r3 r4 r5 ce2 w2 we2 wr2 nm2 n2 T2 (nI k) off2 wtc2 wia2 ++ wO cL o0 fo2)) [0, 1, 2, 3, 4, 5, 6, 8, 9, 10, 11, 12, 13, 7] rfl
  have hD := hD.sub (ws' := wX0 cA h0 q0 q1 q2 q3 q4 q5 w2 ce2 nm2 tl2 tc2 tw2 T2 n2 z2 wtc2 wia2 off2 ++ (wX1 cA g0 r1 r2 r3 r4 r5 ce2 w2 we2 wr2 nm2 n2 T2 (nI k) off2 wtc2 wia2 ++ wO cL o0 fo2)) [0, 1, 2, 3, 4, 5, 6, 8, 9, 10, 11, 12, 13, 7] (by decide) rfl
  refine lv_iload hx hb dL_law_464 (lv_at hl 1 rfl) ?_
  refine lv_icmp_eq (tgt := 471) hx hb dL_law_466 (by decide) (fun _ => ?_) (fun h9 => absurd rfl h9)
  refine lv_iload hx hb dL_law_471 (lv_at hl 1 rfl) ?_
  refine kv_if_ne (tgt := 488) hx hb (by omega) dL_law_473 (by decide) (fun h9 => ?_) (fun h9 => ?_)
  · refine lv_goto (tgt := 831) hx hb dL_law_488 (by decide) ?_
    exact hnext _ _ _ _ _ _ _ _ _ _ _ _ _ _ _ _ hR2 H locs hP hD hS ls (lv_sub hl [2, 3, 4, 5, 6] rfl)
  refine lv_aload_n hx hb dL_law_476 rfl (lv_at hl 5 rfl) ?_
  refine lv_iconst (v := (nI 0)) hx hb dL_law_477 (by decide) ?_
  refine va_lald (D := (dC, dI)) hx hb hK hP 13 1 rfl rfl ko_in dL_law_478 ?_
  refine kv_top (w := .long (r.toInt64)) (congrArg Value.long (hans h9)) ?_
  refine lv_iload hx hb dL_law_479 (lv_at hl 0 rfl) ?_
  refine lv_i2l hx hb dL_law_481 rfl ?_
  refine W.lcmp hx hb dL_law_482 ?_
  refine kv_top (w := .int (nI 0)) (congrArg Value.int (kl_cmp _)) ?_
  refine kv_if_eq (tgt := 488) hx hb (by omega) dL_law_483 (by decide) (fun _ => ?_) (fun h8 => absurd h8 (by omega))
  refine lv_goto (tgt := 831) hx hb dL_law_488 (by decide) ?_
  exact hnext _ _ _ _ _ _ _ _ _ _ _ _ _ _ _ _ hR2 H locs hP hD hS ls (lv_sub hl [2, 3, 4, 5, 6] rfl)
set_option maxHeartbeats 4000000 in
set_option maxRecDepth 100000 in
theorem w_release {p : Program} {l : Launch} {e : Env} {s : State} {m : MethodId} {below : List Frame} {meth : Method} {c : Code} (dC : Nat → ClassId) (dI : Nat → Nat → Nat) {b L : Nat} {xs : Nat → Int32} (hl0 : l.stackTraces = false) (hL : L ≤ 1536) (C0 : lw_At p s m meth c b L xs) (cA cL : ClassId) (h0 q0 q1 q2 q3 q4 q5 g0 r1 r2 r3 r4 r5 o0 : Nat) (hK : va_K (dC, dI) vwCl [(cA, .int), (cL, .long)] s) (hZ : kZ (fun q : Nat => s.heap.size ≤ q) s) (hN : va_Nc kISE kIAE s) (j : Nat) (hj : 3 * j + 3 ≤ L) (cells slots : Nat) (hcs : cells + 1 ≤ 1049 ∧ slots + 6 ≤ 11870) (hnext : kGo p l e s m below meth c dC dI b cA cL h0 q0 q1 q2 q3 q4 q5 g0 r1 r2 r3 r4 r5 o0 j (cells + 1) (slots + 6) 831) : kGo p l e s m below meth c dC dI b cA cL h0 q0 q1 q2 q3 q4 q5 g0 r1 r2 r3 r4 r5 o0 j cells slots 491 := by
  intro fo w ce nm tl tc tw we wr T n z wtc wia off cd hR H locs hP hD hS ls hl
  obtain ⟨hx, hb, hr, hml, hown, hts0, hX, hbl, hlocks, hgv⟩ := id C0
  have hts : ∀ w ∈ wsL_law, w.before #[Value.ref b] s = true := fun w h => hts0 w (wsL_law_in w h)
  have hA : ∀ q : Nat, s.heap.size ≤ q → (fun q : Nat => s.heap.size ≤ q) q := fun _ h => h
  have hbA : ¬ (fun q : Nat => s.heap.size ≤ q) b := Nat.not_le.mpr hbl
  obtain ⟨k, r, rm, fo2, w2, ce2, nm2, tl2, tc2, tw2, we2, wr2, T2, n2, z2, wtc2, wia2, off2, hk2, hc, hm, hrm, hans, hR2⟩ := s_release l hl0 dC dI cA cL h0 q0 q1 q2 q3 q4 q5 o0 g0 r1 r2 r3 r4 r5 fo w ce nm tl tc tw we wr T n z wtc wia off cd (xs (3 * j + 1)) hR
  refine lv_aload_n hx hb dL_law_491 rfl (lv_at hl 1 rfl) ?_
  refine lv_aload_n hx hb dL_law_492 rfl (lv_at hl 0 rfl) ?_
  refine lv_iload hx hb dL_law_493 (lv_at hl 4 rfl) ?_
  refine lv_iconst (v := (nI 1)) hx hb dL_law_495 (by decide) ?_
  refine kv_addE (d := 3 * j + 1) hx hb (by omega) dL_law_496 ?_
  refine kv_sld hx hb hX hbl hbA hS (t := (3 * j + 1)) (by omega) (by omega) dL_law_497 ?_
  refine lv_aload_n hx hb dL_law_498 rfl (lv_at hl 3 rfl) ?_
  refine kc_call (Xr := wX1 cA g0 r1 r2 r3 r4 r5 ce w we wr nm n T cd off wtc wia) (n := 3) hc hx hb hml hown hts gL_law_L_release rfl ⟨rfl, rfl⟩ ⟨by decide +kernel, by decide +kernel, by decide +kernel⟩ rfl ⟨Nat.le_of_ble_eq_true rfl, Nat.le_of_ble_eq_true rfl⟩ hK hP hD hS hA hZ hN [0, 1] [0, 1, 2, 3, 4, 5, 6, 13] [7, 8, 9, 10, 11, 12] rfl rfl rfl (by decide) (by decide) rfl (by decide) hl.1 rfl (Nat.le_of_ble_eq_true rfl) dL_law_499 hcs (fun H locs hP hD hS => ?_)
  have hP := hP.sub (ws' := wX0 cA h0 q0 q1 q2 q3 q4 q5 w2 ce2 nm2 tl2 tc2 tw2 T2 n2 z2 wtc2 wia2 off2 ++ (wX1 cA g0 r1 r2 r3 r4 r5 ce w we wr nm n T cd off wtc wia ++ wO cL o0 fo2)) [6, 7, 8, 9, 10, 11, 12, 0, 1, 2, 3, 4, 5, 13] rfl
  have hD := hD.sub (ws' := wX0 cA h0 q0 q1 q2 q3 q4 q5 w2 ce2 nm2 tl2 tc2 tw2 T2 n2 z2 wtc2 wia2 off2 ++ (wX1 cA g0 r1 r2 r3 r4 r5 ce w we wr nm n T cd off wtc wia ++ wO cL o0 fo2)) [6, 7, 8, 9, 10, 11, 12, 0, 1, 2, 3, 4, 5, 13] (by decide) rfl
  refine lv_istore (lv' := [(5, .int (nI k)), (0, .ref b), (1, .ref h0), (2, .ref g0), (3, .ref o0), (4, .int (nI (3 * j)))]) hx hb dL_law_502 hl (by decide) rfl (fun ls hl => ?_)
  refine lv_aload_n hx hb dL_law_504 rfl (lv_at hl 3 rfl) ?_
  refine lv_aload_n hx hb dL_law_505 rfl (lv_at hl 1 rfl) ?_
  refine lv_iload hx hb dL_law_506 (lv_at hl 5 rfl) ?_
  refine lv_iconst (v := (nI 1)) hx hb dL_law_508 (by decide) ?_
  refine kv_addE (d := 3 * j + 1) hx hb (by omega) dL_law_509 ?_
  refine kv_sld hx hb hX hbl hbA hS (t := (3 * j + 1)) (by omega) (by omega) dL_law_510 ?_
  refine kv_Vi (Xr := wX0 cA h0 q0 q1 q2 q3 q4 q5 w2 ce2 nm2 tl2 tc2 tw2 T2 n2 z2 wtc2 wia2 off2 ++ wO cL o0 fo2) (n := 1) hm hx hb hml hown hts gL_law_X1_release rfl ⟨hrm.1, hrm.2.1⟩ ⟨rfl, by decide +kernel, by decide +kernel, by decide +kernel⟩ rfl ⟨Nat.le_trans (Nat.succ_le_succ hrm.2.2.1) (Nat.le_of_ble_eq_true rfl), Nat.le_trans (Nat.add_le_add_left hrm.2.2.2 _) (Nat.le_of_ble_eq_true rfl)⟩ hK hP hD hS hA [0] [7, 8, 9, 10, 11, 12] [0, 1, 2, 3, 4, 5, 6, 13] rfl rfl rfl (by decide) (by decide) (q0 := 0) rfl rfl rfl (by decide) hl.1 rfl (Nat.le_of_ble_eq_true rfl) dL_law_511 ⟨by have := hcs.1; show cells + 1 ≤ 1049; omega, by have := hcs.2; show slots + 6 ≤ 11870; omega⟩ (fun H locs hP hD hS => ?_)
  have hP := hP.sub (ws' := wX0 cA h0 q0 q1 q2 q3 q4 q5 w2 ce2 nm2 tl2 tc2 tw2 T2 n2 z2 wtc2 wia2 off2 ++ (wX1 cA g0 r1 r2 r3 r4 r5 ce2 w2 we2 wr2 nm2 n2 T2 (nI k) off2 wtc2 wia2 ++ wO cL o0 fo2)) [0, 1, 2, 3, 4, 5, 6, 8, 9, 10, 11, 12, 13, 7] rfl
  have hD := hD.sub (ws' := wX0 cA h0 q0 q1 q2 q3 q4 q5 w2 ce2 nm2 tl2 tc2 tw2 T2 n2 z2 wtc2 wia2 off2 ++ (wX1 cA g0 r1 r2 r3 r4 r5 ce2 w2 we2 wr2 nm2 n2 T2 (nI k) off2 wtc2 wia2 ++ wO cL o0 fo2)) [0, 1, 2, 3, 4, 5, 6, 8, 9, 10, 11, 12, 13, 7] (by decide) rfl
  refine lv_istore (lv' := [(6, .int r), (5, .int (nI k)), (0, .ref b), (1, .ref h0), (2, .ref g0), (3, .ref o0), (4, .int (nI (3 * j)))]) hx hb dL_law_514 hl (by decide) rfl (fun ls hl => ?_)
  refine lv_aload_n hx hb dL_law_516 rfl (lv_at hl 4 rfl) ?_
  refine kv_Vi (Xr := wX0 cA h0 q0 q1 q2 q3 q4 q5 w2 ce2 nm2 tl2 tc2 tw2 T2 n2 z2 wtc2 wia2 off2 ++ wO cL o0 fo2) (n := 0) (c_X1_thrown l dC dI cA g0 r1 r2 r3 r4 r5 ce2 w2 we2 wr2 nm2 n2 T2 (nI k) off2 wtc2 wia2) hx hb hml hown hts gL_law_X1_thrown rfl ⟨rfl, rfl⟩ ⟨rfl, by decide +kernel, by decide +kernel, by decide +kernel⟩ rfl ⟨Nat.le_of_ble_eq_true rfl, Nat.le_of_ble_eq_true rfl⟩ hK hP hD hS hA [0] [7, 8, 9, 10, 11, 12] [0, 1, 2, 3, 4, 5, 6, 13] rfl rfl rfl (by decide) (by decide) (q0 := 0) rfl rfl rfl (by decide) hl.1 rfl (Nat.le_of_ble_eq_true rfl) dL_law_517 ⟨by have := hcs.1; show cells + 1 ≤ 1049; omega, by have := hcs.2; show slots + 6 ≤ 11870; omega⟩ (fun H locs hP hD hS => ?_)
  have hP := hP.sub (ws' := wX0 cA h0 q0 q1 q2 q3 q4 q5 w2 ce2 nm2 tl2 tc2 tw2 T2 n2 z2 wtc2 wia2 off2 ++ (wX1 cA g0 r1 r2 r3 r4 r5 ce2 w2 we2 wr2 nm2 n2 T2 (nI k) off2 wtc2 wia2 ++ wO cL o0 fo2)) [0, 1, 2, 3, 4, 5, 6, 8, 9, 10, 11, 12, 13, 7] rfl
  have hD := hD.sub (ws' := wX0 cA h0 q0 q1 q2 q3 q4 q5 w2 ce2 nm2 tl2 tc2 tw2 T2 n2 z2 wtc2 wia2 off2 ++ (wX1 cA g0 r1 r2 r3 r4 r5 ce2 w2 we2 wr2 nm2 n2 T2 (nI k) off2 wtc2 wia2 ++ wO cL o0 fo2)) [0, 1, 2, 3, 4, 5, 6, 8, 9, 10, 11, 12, 13, 7] (by decide) rfl
  refine lv_iload hx hb dL_law_520 (lv_at hl 1 rfl) ?_
  refine lv_icmp_eq (tgt := 527) hx hb dL_law_522 (by decide) (fun _ => ?_) (fun h9 => absurd rfl h9)
  refine lv_iload hx hb dL_law_527 (lv_at hl 1 rfl) ?_
  refine kv_if_ne (tgt := 544) hx hb (by omega) dL_law_529 (by decide) (fun h9 => ?_) (fun h9 => ?_)
  · refine lv_goto (tgt := 831) hx hb dL_law_544 (by decide) ?_
    exact hnext _ _ _ _ _ _ _ _ _ _ _ _ _ _ _ _ hR2 H locs hP hD hS ls (lv_sub hl [2, 3, 4, 5, 6] rfl)
  refine lv_aload_n hx hb dL_law_532 rfl (lv_at hl 5 rfl) ?_
  refine lv_iconst (v := (nI 0)) hx hb dL_law_533 (by decide) ?_
  refine va_lald (D := (dC, dI)) hx hb hK hP 13 1 rfl rfl ko_in dL_law_534 ?_
  refine kv_top (w := .long (r.toInt64)) (congrArg Value.long (hans h9)) ?_
  refine lv_iload hx hb dL_law_535 (lv_at hl 0 rfl) ?_
  refine lv_i2l hx hb dL_law_537 rfl ?_
  refine W.lcmp hx hb dL_law_538 ?_
  refine kv_top (w := .int (nI 0)) (congrArg Value.int (kl_cmp _)) ?_
  refine kv_if_eq (tgt := 544) hx hb (by omega) dL_law_539 (by decide) (fun _ => ?_) (fun h8 => absurd h8 (by omega))
  refine lv_goto (tgt := 831) hx hb dL_law_544 (by decide) ?_
  exact hnext _ _ _ _ _ _ _ _ _ _ _ _ _ _ _ _ hR2 H locs hP hD hS ls (lv_sub hl [2, 3, 4, 5, 6] rfl)
set_option maxHeartbeats 4000000 in
set_option maxRecDepth 100000 in
theorem w_crash {p : Program} {l : Launch} {e : Env} {s : State} {m : MethodId} {below : List Frame} {meth : Method} {c : Code} (dC : Nat → ClassId) (dI : Nat → Nat → Nat) {b L : Nat} {xs : Nat → Int32} (hl0 : l.stackTraces = false) (hL : L ≤ 1536) (C0 : lw_At p s m meth c b L xs) (cA cL : ClassId) (h0 q0 q1 q2 q3 q4 q5 g0 r1 r2 r3 r4 r5 o0 : Nat) (hK : va_K (dC, dI) vwCl [(cA, .int), (cL, .long)] s) (hZ : kZ (fun q : Nat => s.heap.size ≤ q) s) (hN : va_Nc kISE kIAE s) (j : Nat) (hj : 3 * j + 3 ≤ L) (cells slots : Nat) (hcs : cells + 1 ≤ 1049 ∧ slots + 6 ≤ 11870) (hnext : kGo p l e s m below meth c dC dI b cA cL h0 q0 q1 q2 q3 q4 q5 g0 r1 r2 r3 r4 r5 o0 j (cells + 1) (slots + 6) 831) : kGo p l e s m below meth c dC dI b cA cL h0 q0 q1 q2 q3 q4 q5 g0 r1 r2 r3 r4 r5 o0 j cells slots 547 := by
  intro fo w ce nm tl tc tw we wr T n z wtc wia off cd hR H locs hP hD hS ls hl
  obtain ⟨hx, hb, hr, hml, hown, hts0, hX, hbl, hlocks, hgv⟩ := id C0
  have hts : ∀ w ∈ wsL_law, w.before #[Value.ref b] s = true := fun w h => hts0 w (wsL_law_in w h)
  have hA : ∀ q : Nat, s.heap.size ≤ q → (fun q : Nat => s.heap.size ≤ q) q := fun _ h => h
  have hbA : ¬ (fun q : Nat => s.heap.size ≤ q) b := Nat.not_le.mpr hbl
  refine W.widen (k := cells + 1) (n := slots + 6) (by omega) (by omega) ?_
  refine lv_aload_n hx hb dL_law_547 rfl (lv_at hl 1 rfl) ?_
  refine lv_aload_n hx hb dL_law_548 rfl (lv_at hl 0 rfl) ?_
  refine lv_iload hx hb dL_law_549 (lv_at hl 4 rfl) ?_
  refine lv_iconst (v := (nI 1)) hx hb dL_law_551 (by decide) ?_
  refine kv_addE (d := 3 * j + 1) hx hb (by omega) dL_law_552 ?_
  refine kv_sld hx hb hX hbl hbA hS (t := (3 * j + 1)) (by omega) (by omega) dL_law_553 ?_
  refine kv_Vv (Xr := wX1 cA g0 r1 r2 r3 r4 r5 ce w we wr nm n T cd off wtc wia ++ wO cL o0 fo) (n := 1) (c_X0_crash l dC dI cA h0 q0 q1 q2 q3 q4 q5 w ce nm tl tc tw T n z wtc wia off (xs (3 * j + 1))) hx hb hml hown hts gL_law_X0_crash rfl ⟨rfl, rfl⟩ ⟨rfl, by decide +kernel, by decide +kernel, by decide +kernel⟩ rfl ⟨Nat.le_of_ble_eq_true rfl, Nat.le_of_ble_eq_true rfl⟩ hK hP hD hS hA [0] [0, 1, 2, 3, 4, 5, 6] [7, 8, 9, 10, 11, 12, 13] rfl rfl rfl (by decide) (by decide) (q0 := 0) rfl rfl rfl (by decide) hl.1 rfl (Nat.le_of_ble_eq_true rfl) dL_law_554 ⟨by have := hcs.1; show cells + 1 ≤ 1049; omega, by have := hcs.2; show slots + 6 ≤ 11870; omega⟩ (fun H locs hP hD hS => ?_)
  have hP := hP.sub (ws' := wX0 cA h0 q0 q1 q2 q3 q4 q5 w ce nm tl tc tw T n z (if nI 1 ≤ xs (3 * j + 1) then xs (3 * j + 1) else nI 0) wia off ++ (wX1 cA g0 r1 r2 r3 r4 r5 ce w we wr nm n T cd off wtc wia ++ wO cL o0 fo)) [7, 8, 9, 10, 11, 12, 13, 0, 1, 2, 3, 4, 5, 6] rfl
  have hD := hD.sub (ws' := wX0 cA h0 q0 q1 q2 q3 q4 q5 w ce nm tl tc tw T n z (if nI 1 ≤ xs (3 * j + 1) then xs (3 * j + 1) else nI 0) wia off ++ (wX1 cA g0 r1 r2 r3 r4 r5 ce w we wr nm n T cd off wtc wia ++ wO cL o0 fo)) [7, 8, 9, 10, 11, 12, 13, 0, 1, 2, 3, 4, 5, 6] (by decide) rfl
  refine lv_aload_n hx hb dL_law_557 rfl (lv_at hl 2 rfl) ?_
  refine lv_aload_n hx hb dL_law_558 rfl (lv_at hl 0 rfl) ?_
  refine lv_iload hx hb dL_law_559 (lv_at hl 4 rfl) ?_
  refine lv_iconst (v := (nI 1)) hx hb dL_law_561 (by decide) ?_
  refine kv_addE (d := 3 * j + 1) hx hb (by omega) dL_law_562 ?_
  refine kv_sld hx hb hX hbl hbA hS (t := (3 * j + 1)) (by omega) (by omega) dL_law_563 ?_
  refine kv_Vv (Xr := wX0 cA h0 q0 q1 q2 q3 q4 q5 w ce nm tl tc tw T n z (if nI 1 ≤ xs (3 * j + 1) then xs (3 * j + 1) else nI 0) wia off ++ wO cL o0 fo) (n := 1) (c_X1_crash l dC dI cA g0 r1 r2 r3 r4 r5 ce w we wr nm n T cd off wtc wia (xs (3 * j + 1))) hx hb hml hown hts gL_law_X1_crash rfl ⟨rfl, rfl⟩ ⟨rfl, by decide +kernel, by decide +kernel, by decide +kernel⟩ rfl ⟨Nat.le_of_ble_eq_true rfl, Nat.le_of_ble_eq_true rfl⟩ hK hP hD hS hA [0] [7, 8, 9, 10, 11, 12] [0, 1, 2, 3, 4, 5, 6, 13] rfl rfl rfl (by decide) (by decide) (q0 := 0) rfl rfl rfl (by decide) hl.1 rfl (Nat.le_of_ble_eq_true rfl) dL_law_564 ⟨by have := hcs.1; show cells + 1 ≤ 1049; omega, by have := hcs.2; show slots + 6 ≤ 11870; omega⟩ (fun H locs hP hD hS => ?_)
  have hP := hP.sub (ws' := wX0 cA h0 q0 q1 q2 q3 q4 q5 w ce nm tl tc tw T n z (if nI 1 ≤ xs (3 * j + 1) then xs (3 * j + 1) else nI 0) wia off ++ (wX1 cA g0 r1 r2 r3 r4 r5 ce w we wr nm n T (nI 0) off (if nI 1 ≤ xs (3 * j + 1) then xs (3 * j + 1) else nI 0) wia ++ wO cL o0 fo)) [0, 1, 2, 3, 4, 5, 6, 8, 9, 10, 11, 12, 13, 7] rfl
  have hD := hD.sub (ws' := wX0 cA h0 q0 q1 q2 q3 q4 q5 w ce nm tl tc tw T n z (if nI 1 ≤ xs (3 * j + 1) then xs (3 * j + 1) else nI 0) wia off ++ (wX1 cA g0 r1 r2 r3 r4 r5 ce w we wr nm n T (nI 0) off (if nI 1 ≤ xs (3 * j + 1) then xs (3 * j + 1) else nI 0) wia ++ wO cL o0 fo)) [0, 1, 2, 3, 4, 5, 6, 8, 9, 10, 11, 12, 13, 7] (by decide) rfl
  refine lv_goto (tgt := 831) hx hb dL_law_567 (by decide) ?_
  exact hnext _ _ _ _ _ _ _ _ _ _ _ _ _ _ _ _ hR H locs hP hD hS ls (lv_sub hl [0, 1, 2, 3, 4] rfl)
set_option maxHeartbeats 4000000 in
set_option maxRecDepth 100000 in
theorem w_recover {p : Program} {l : Launch} {e : Env} {s : State} {m : MethodId} {below : List Frame} {meth : Method} {c : Code} (dC : Nat → ClassId) (dI : Nat → Nat → Nat) {b L : Nat} {xs : Nat → Int32} (hl0 : l.stackTraces = false) (hL : L ≤ 1536) (C0 : lw_At p s m meth c b L xs) (cA cL : ClassId) (h0 q0 q1 q2 q3 q4 q5 g0 r1 r2 r3 r4 r5 o0 : Nat) (hK : va_K (dC, dI) vwCl [(cA, .int), (cL, .long)] s) (hZ : kZ (fun q : Nat => s.heap.size ≤ q) s) (hN : va_Nc kISE kIAE s) (j : Nat) (hj : 3 * j + 3 ≤ L) (cells slots : Nat) (hcs : cells + 1 ≤ 1049 ∧ slots + 6 ≤ 11870) (hnext : kGo p l e s m below meth c dC dI b cA cL h0 q0 q1 q2 q3 q4 q5 g0 r1 r2 r3 r4 r5 o0 j (cells + 1) (slots + 6) 831) : kGo p l e s m below meth c dC dI b cA cL h0 q0 q1 q2 q3 q4 q5 g0 r1 r2 r3 r4 r5 o0 j cells slots 570 := by
  intro fo w ce nm tl tc tw we wr T n z wtc wia off cd hR H locs hP hD hS ls hl
  obtain ⟨hx, hb, hr, hml, hown, hts0, hX, hbl, hlocks, hgv⟩ := id C0
  have hts : ∀ w ∈ wsL_law, w.before #[Value.ref b] s = true := fun w h => hts0 w (wsL_law_in w h)
  have hA : ∀ q : Nat, s.heap.size ≤ q → (fun q : Nat => s.heap.size ≤ q) q := fun _ h => h
  have hbA : ¬ (fun q : Nat => s.heap.size ≤ q) b := Nat.not_le.mpr hbl
  obtain ⟨r, rm, rm2, w2, ce2, wia2, hc, hm, hrm, hrm2⟩ := s_recover l dC dI cA h0 q0 q1 q2 q3 q4 q5 g0 r1 r2 r3 r4 r5 w ce nm tl tc tw we wr T n z wtc wia off cd
  refine W.widen (k := cells + 1) (n := slots + 6) (by omega) (by omega) ?_
  refine lv_aload_n hx hb dL_law_570 rfl (lv_at hl 1 rfl) ?_
  refine kv_Vi (Xr := wX1 cA g0 r1 r2 r3 r4 r5 ce w we wr nm n T cd off wtc wia ++ wO cL o0 fo) (n := 0) hc hx hb hml hown hts gL_law_X0_recover rfl ⟨hrm.1, hrm.2.1⟩ ⟨rfl, by decide +kernel, by decide +kernel, by decide +kernel⟩ rfl ⟨Nat.le_trans (Nat.succ_le_succ hrm.2.2.1) (Nat.le_of_ble_eq_true rfl), Nat.le_trans (Nat.add_le_add_left hrm.2.2.2 _) (Nat.le_of_ble_eq_true rfl)⟩ hK hP hD hS hA [0] [0, 1, 2, 3, 4, 5, 6] [7, 8, 9, 10, 11, 12, 13] rfl rfl rfl (by decide) (by decide) (q0 := 0) rfl rfl rfl (by decide) hl.1 rfl (Nat.le_of_ble_eq_true rfl) dL_law_571 ⟨by have := hcs.1; show cells + 1 ≤ 1049; omega, by have := hcs.2; show slots + 6 ≤ 11870; omega⟩ (fun H locs hP hD hS => ?_)
  have hP := hP.sub (ws' := wX0 cA h0 q0 q1 q2 q3 q4 q5 w2 ce2 nm tl tc tw 0 0 0 (nI 0) wia2 (nI 0) ++ (wX1 cA g0 r1 r2 r3 r4 r5 ce w we wr nm n T cd off wtc wia ++ wO cL o0 fo)) [7, 8, 9, 10, 11, 12, 13, 0, 1, 2, 3, 4, 5, 6] rfl
  have hD := hD.sub (ws' := wX0 cA h0 q0 q1 q2 q3 q4 q5 w2 ce2 nm tl tc tw 0 0 0 (nI 0) wia2 (nI 0) ++ (wX1 cA g0 r1 r2 r3 r4 r5 ce w we wr nm n T cd off wtc wia ++ wO cL o0 fo)) [7, 8, 9, 10, 11, 12, 13, 0, 1, 2, 3, 4, 5, 6] (by decide) rfl
  refine lv_aload_n hx hb dL_law_574 rfl (lv_at hl 2 rfl) ?_
  refine kv_Vi (Xr := wX0 cA h0 q0 q1 q2 q3 q4 q5 w2 ce2 nm tl tc tw 0 0 0 (nI 0) wia2 (nI 0) ++ wO cL o0 fo) (n := 0) hm hx hb hml hown hts gL_law_X1_recover rfl ⟨hrm2.1, hrm2.2.1⟩ ⟨rfl, by decide +kernel, by decide +kernel, by decide +kernel⟩ rfl ⟨Nat.le_trans (Nat.succ_le_succ hrm2.2.2.1) (Nat.le_of_ble_eq_true rfl), Nat.le_trans (Nat.add_le_add_left hrm2.2.2.2 _) (Nat.le_of_ble_eq_true rfl)⟩ hK hP hD hS hA [0] [7, 8, 9, 10, 11, 12] [0, 1, 2, 3, 4, 5, 6, 13] rfl rfl rfl (by decide) (by decide) (q0 := 0) rfl rfl rfl (by decide) hl.1 rfl (Nat.le_of_ble_eq_true rfl) dL_law_575 ⟨by have := hcs.1; show cells + 1 ≤ 1049; omega, by have := hcs.2; show slots + 6 ≤ 11870; omega⟩ (fun H locs hP hD hS => ?_)
  have hP := hP.sub (ws' := wX0 cA h0 q0 q1 q2 q3 q4 q5 w2 ce2 nm tl tc tw 0 0 0 (nI 0) wia2 (nI 0) ++ (wX1 cA g0 r1 r2 r3 r4 r5 ce2 w2 we wr nm 0 0 (nI 0) (nI 0) (nI 0) wia2 ++ wO cL o0 fo)) [0, 1, 2, 3, 4, 5, 6, 8, 9, 10, 11, 12, 13, 7] rfl
  have hD := hD.sub (ws' := wX0 cA h0 q0 q1 q2 q3 q4 q5 w2 ce2 nm tl tc tw 0 0 0 (nI 0) wia2 (nI 0) ++ (wX1 cA g0 r1 r2 r3 r4 r5 ce2 w2 we wr nm 0 0 (nI 0) (nI 0) (nI 0) wia2 ++ wO cL o0 fo)) [0, 1, 2, 3, 4, 5, 6, 8, 9, 10, 11, 12, 13, 7] (by decide) rfl
  refine lv_icmp_eq (tgt := 831) hx hb dL_law_578 (by decide) (fun _ => ?_) (fun h9 => absurd rfl h9)
  exact hnext _ _ _ _ _ _ _ _ _ _ _ _ _ _ _ _ (kR_0 _ _ _ _ _ _ _) H locs hP hD hS ls (lv_sub hl [0, 1, 2, 3, 4] rfl)
set_option maxHeartbeats 4000000 in
set_option maxRecDepth 100000 in
theorem w_disk {p : Program} {l : Launch} {e : Env} {s : State} {m : MethodId} {below : List Frame} {meth : Method} {c : Code} (dC : Nat → ClassId) (dI : Nat → Nat → Nat) {b L : Nat} {xs : Nat → Int32} (hl0 : l.stackTraces = false) (hL : L ≤ 1536) (C0 : lw_At p s m meth c b L xs) (cA cL : ClassId) (h0 q0 q1 q2 q3 q4 q5 g0 r1 r2 r3 r4 r5 o0 : Nat) (hK : va_K (dC, dI) vwCl [(cA, .int), (cL, .long)] s) (hZ : kZ (fun q : Nat => s.heap.size ≤ q) s) (hN : va_Nc kISE kIAE s) (j : Nat) (hj : 3 * j + 3 ≤ L) (cells slots : Nat) (hcs : cells + 1 ≤ 1049 ∧ slots + 6 ≤ 11870) (hnext : kGo p l e s m below meth c dC dI b cA cL h0 q0 q1 q2 q3 q4 q5 g0 r1 r2 r3 r4 r5 o0 j (cells + 1) (slots + 6) 831) : kGo p l e s m below meth c dC dI b cA cL h0 q0 q1 q2 q3 q4 q5 g0 r1 r2 r3 r4 r5 o0 j cells slots 583 := by
  intro fo w ce nm tl tc tw we wr T n z wtc wia off cd hR H locs hP hD hS ls hl
  obtain ⟨hx, hb, hr, hml, hown, hts0, hX, hbl, hlocks, hgv⟩ := id C0
  have hts : ∀ w ∈ wsL_law, w.before #[Value.ref b] s = true := fun w h => hts0 w (wsL_law_in w h)
  have hA : ∀ q : Nat, s.heap.size ≤ q → (fun q : Nat => s.heap.size ≤ q) q := fun _ h => h
  have hbA : ¬ (fun q : Nat => s.heap.size ≤ q) b := Nat.not_le.mpr hbl
  obtain ⟨k, r, rm, fo2, w2, ce2, nm2, tl2, tc2, tw2, we2, wr2, T2, n2, z2, wtc2, wia2, off2, hk2, hc, hm, hrm, hans, hR2⟩ := s_disk l hl0 dC dI cA cL h0 q0 q1 q2 q3 q4 q5 o0 g0 r1 r2 r3 r4 r5 fo w ce nm tl tc tw we wr T n z wtc wia off cd (xs (3 * j + 1)) hR
  refine lv_aload_n hx hb dL_law_583 rfl (lv_at hl 1 rfl) ?_
  refine lv_aload_n hx hb dL_law_584 rfl (lv_at hl 0 rfl) ?_
  refine lv_iload hx hb dL_law_585 (lv_at hl 4 rfl) ?_
  refine lv_iconst (v := (nI 1)) hx hb dL_law_587 (by decide) ?_
  refine kv_addE (d := 3 * j + 1) hx hb (by omega) dL_law_588 ?_
  refine kv_sld hx hb hX hbl hbA hS (t := (3 * j + 1)) (by omega) (by omega) dL_law_589 ?_
  refine lv_aload_n hx hb dL_law_590 rfl (lv_at hl 3 rfl) ?_
  refine kc_call (Xr := wX1 cA g0 r1 r2 r3 r4 r5 ce w we wr nm n T cd off wtc wia) (n := 3) hc hx hb hml hown hts gL_law_L_disk rfl ⟨rfl, rfl⟩ ⟨by decide +kernel, by decide +kernel, by decide +kernel⟩ rfl ⟨Nat.le_of_ble_eq_true rfl, Nat.le_of_ble_eq_true rfl⟩ hK hP hD hS hA hZ hN [0, 1] [0, 1, 2, 3, 4, 5, 6, 13] [7, 8, 9, 10, 11, 12] rfl rfl rfl (by decide) (by decide) rfl (by decide) hl.1 rfl (Nat.le_of_ble_eq_true rfl) dL_law_591 hcs (fun H locs hP hD hS => ?_)
  have hP := hP.sub (ws' := wX0 cA h0 q0 q1 q2 q3 q4 q5 w2 ce2 nm2 tl2 tc2 tw2 T2 n2 z2 wtc2 wia2 off2 ++ (wX1 cA g0 r1 r2 r3 r4 r5 ce w we wr nm n T cd off wtc wia ++ wO cL o0 fo2)) [6, 7, 8, 9, 10, 11, 12, 0, 1, 2, 3, 4, 5, 13] rfl
  have hD := hD.sub (ws' := wX0 cA h0 q0 q1 q2 q3 q4 q5 w2 ce2 nm2 tl2 tc2 tw2 T2 n2 z2 wtc2 wia2 off2 ++ (wX1 cA g0 r1 r2 r3 r4 r5 ce w we wr nm n T cd off wtc wia ++ wO cL o0 fo2)) [6, 7, 8, 9, 10, 11, 12, 0, 1, 2, 3, 4, 5, 13] (by decide) rfl
  refine lv_istore (lv' := [(5, .int (nI k)), (0, .ref b), (1, .ref h0), (2, .ref g0), (3, .ref o0), (4, .int (nI (3 * j)))]) hx hb dL_law_594 hl (by decide) rfl (fun ls hl => ?_)
  refine lv_aload_n hx hb dL_law_596 rfl (lv_at hl 3 rfl) ?_
  refine lv_aload_n hx hb dL_law_597 rfl (lv_at hl 1 rfl) ?_
  refine lv_iload hx hb dL_law_598 (lv_at hl 5 rfl) ?_
  refine lv_iconst (v := (nI 1)) hx hb dL_law_600 (by decide) ?_
  refine kv_addE (d := 3 * j + 1) hx hb (by omega) dL_law_601 ?_
  refine kv_sld hx hb hX hbl hbA hS (t := (3 * j + 1)) (by omega) (by omega) dL_law_602 ?_
  refine kv_Vi (Xr := wX0 cA h0 q0 q1 q2 q3 q4 q5 w2 ce2 nm2 tl2 tc2 tw2 T2 n2 z2 wtc2 wia2 off2 ++ wO cL o0 fo2) (n := 1) hm hx hb hml hown hts gL_law_X1_disk rfl ⟨hrm.1, hrm.2.1⟩ ⟨rfl, by decide +kernel, by decide +kernel, by decide +kernel⟩ rfl ⟨Nat.le_trans (Nat.succ_le_succ hrm.2.2.1) (Nat.le_of_ble_eq_true rfl), Nat.le_trans (Nat.add_le_add_left hrm.2.2.2 _) (Nat.le_of_ble_eq_true rfl)⟩ hK hP hD hS hA [0] [7, 8, 9, 10, 11, 12] [0, 1, 2, 3, 4, 5, 6, 13] rfl rfl rfl (by decide) (by decide) (q0 := 0) rfl rfl rfl (by decide) hl.1 rfl (Nat.le_of_ble_eq_true rfl) dL_law_603 ⟨by have := hcs.1; show cells + 1 ≤ 1049; omega, by have := hcs.2; show slots + 6 ≤ 11870; omega⟩ (fun H locs hP hD hS => ?_)
  have hP := hP.sub (ws' := wX0 cA h0 q0 q1 q2 q3 q4 q5 w2 ce2 nm2 tl2 tc2 tw2 T2 n2 z2 wtc2 wia2 off2 ++ (wX1 cA g0 r1 r2 r3 r4 r5 ce2 w2 we2 wr2 nm2 n2 T2 (nI k) off2 wtc2 wia2 ++ wO cL o0 fo2)) [0, 1, 2, 3, 4, 5, 6, 8, 9, 10, 11, 12, 13, 7] rfl
  have hD := hD.sub (ws' := wX0 cA h0 q0 q1 q2 q3 q4 q5 w2 ce2 nm2 tl2 tc2 tw2 T2 n2 z2 wtc2 wia2 off2 ++ (wX1 cA g0 r1 r2 r3 r4 r5 ce2 w2 we2 wr2 nm2 n2 T2 (nI k) off2 wtc2 wia2 ++ wO cL o0 fo2)) [0, 1, 2, 3, 4, 5, 6, 8, 9, 10, 11, 12, 13, 7] (by decide) rfl
  refine lv_istore (lv' := [(6, .int r), (5, .int (nI k)), (0, .ref b), (1, .ref h0), (2, .ref g0), (3, .ref o0), (4, .int (nI (3 * j)))]) hx hb dL_law_606 hl (by decide) rfl (fun ls hl => ?_)
  refine lv_aload_n hx hb dL_law_608 rfl (lv_at hl 4 rfl) ?_
  refine kv_Vi (Xr := wX0 cA h0 q0 q1 q2 q3 q4 q5 w2 ce2 nm2 tl2 tc2 tw2 T2 n2 z2 wtc2 wia2 off2 ++ wO cL o0 fo2) (n := 0) (c_X1_thrown l dC dI cA g0 r1 r2 r3 r4 r5 ce2 w2 we2 wr2 nm2 n2 T2 (nI k) off2 wtc2 wia2) hx hb hml hown hts gL_law_X1_thrown rfl ⟨rfl, rfl⟩ ⟨rfl, by decide +kernel, by decide +kernel, by decide +kernel⟩ rfl ⟨Nat.le_of_ble_eq_true rfl, Nat.le_of_ble_eq_true rfl⟩ hK hP hD hS hA [0] [7, 8, 9, 10, 11, 12] [0, 1, 2, 3, 4, 5, 6, 13] rfl rfl rfl (by decide) (by decide) (q0 := 0) rfl rfl rfl (by decide) hl.1 rfl (Nat.le_of_ble_eq_true rfl) dL_law_609 ⟨by have := hcs.1; show cells + 1 ≤ 1049; omega, by have := hcs.2; show slots + 6 ≤ 11870; omega⟩ (fun H locs hP hD hS => ?_)
  have hP := hP.sub (ws' := wX0 cA h0 q0 q1 q2 q3 q4 q5 w2 ce2 nm2 tl2 tc2 tw2 T2 n2 z2 wtc2 wia2 off2 ++ (wX1 cA g0 r1 r2 r3 r4 r5 ce2 w2 we2 wr2 nm2 n2 T2 (nI k) off2 wtc2 wia2 ++ wO cL o0 fo2)) [0, 1, 2, 3, 4, 5, 6, 8, 9, 10, 11, 12, 13, 7] rfl
  have hD := hD.sub (ws' := wX0 cA h0 q0 q1 q2 q3 q4 q5 w2 ce2 nm2 tl2 tc2 tw2 T2 n2 z2 wtc2 wia2 off2 ++ (wX1 cA g0 r1 r2 r3 r4 r5 ce2 w2 we2 wr2 nm2 n2 T2 (nI k) off2 wtc2 wia2 ++ wO cL o0 fo2)) [0, 1, 2, 3, 4, 5, 6, 8, 9, 10, 11, 12, 13, 7] (by decide) rfl
  refine lv_iload hx hb dL_law_612 (lv_at hl 1 rfl) ?_
  refine lv_icmp_eq (tgt := 619) hx hb dL_law_614 (by decide) (fun _ => ?_) (fun h9 => absurd rfl h9)
  refine lv_iload hx hb dL_law_619 (lv_at hl 1 rfl) ?_
  refine kv_if_ne (tgt := 636) hx hb (by omega) dL_law_621 (by decide) (fun h9 => ?_) (fun h9 => ?_)
  · refine lv_goto (tgt := 831) hx hb dL_law_636 (by decide) ?_
    exact hnext _ _ _ _ _ _ _ _ _ _ _ _ _ _ _ _ hR2 H locs hP hD hS ls (lv_sub hl [2, 3, 4, 5, 6] rfl)
  refine lv_aload_n hx hb dL_law_624 rfl (lv_at hl 5 rfl) ?_
  refine lv_iconst (v := (nI 0)) hx hb dL_law_625 (by decide) ?_
  refine va_lald (D := (dC, dI)) hx hb hK hP 13 1 rfl rfl ko_in dL_law_626 ?_
  refine kv_top (w := .long (r.toInt64)) (congrArg Value.long (hans h9)) ?_
  refine lv_iload hx hb dL_law_627 (lv_at hl 0 rfl) ?_
  refine lv_i2l hx hb dL_law_629 rfl ?_
  refine W.lcmp hx hb dL_law_630 ?_
  refine kv_top (w := .int (nI 0)) (congrArg Value.int (kl_cmp _)) ?_
  refine kv_if_eq (tgt := 636) hx hb (by omega) dL_law_631 (by decide) (fun _ => ?_) (fun h8 => absurd h8 (by omega))
  refine lv_goto (tgt := 831) hx hb dL_law_636 (by decide) ?_
  exact hnext _ _ _ _ _ _ _ _ _ _ _ _ _ _ _ _ hR2 H locs hP hD hS ls (lv_sub hl [2, 3, 4, 5, 6] rfl)
set_option maxHeartbeats 4000000 in
set_option maxRecDepth 100000 in
theorem w_spoil {p : Program} {l : Launch} {e : Env} {s : State} {m : MethodId} {below : List Frame} {meth : Method} {c : Code} (dC : Nat → ClassId) (dI : Nat → Nat → Nat) {b L : Nat} {xs : Nat → Int32} (hl0 : l.stackTraces = false) (hL : L ≤ 1536) (C0 : lw_At p s m meth c b L xs) (cA cL : ClassId) (h0 q0 q1 q2 q3 q4 q5 g0 r1 r2 r3 r4 r5 o0 : Nat) (hK : va_K (dC, dI) vwCl [(cA, .int), (cL, .long)] s) (hZ : kZ (fun q : Nat => s.heap.size ≤ q) s) (hN : va_Nc kISE kIAE s) (j : Nat) (hj : 3 * j + 3 ≤ L) (cells slots : Nat) (hcs : cells + 1 ≤ 1049 ∧ slots + 6 ≤ 11870) (hnext : kGo p l e s m below meth c dC dI b cA cL h0 q0 q1 q2 q3 q4 q5 g0 r1 r2 r3 r4 r5 o0 j (cells + 1) (slots + 6) 831) : kGo p l e s m below meth c dC dI b cA cL h0 q0 q1 q2 q3 q4 q5 g0 r1 r2 r3 r4 r5 o0 j cells slots 639 := by
  intro fo w ce nm tl tc tw we wr T n z wtc wia off cd hR H locs hP hD hS ls hl
  obtain ⟨hx, hb, hr, hml, hown, hts0, hX, hbl, hlocks, hgv⟩ := id C0
  have hts : ∀ w ∈ wsL_law, w.before #[Value.ref b] s = true := fun w h => hts0 w (wsL_law_in w h)
  have hA : ∀ q : Nat, s.heap.size ≤ q → (fun q : Nat => s.heap.size ≤ q) q := fun _ h => h
  have hbA : ¬ (fun q : Nat => s.heap.size ≤ q) b := Nat.not_le.mpr hbl
  obtain ⟨k, r, rm, fo2, w2, ce2, nm2, tl2, tc2, tw2, we2, wr2, T2, n2, z2, wtc2, wia2, off2, hk2, hc, hm, hrm, hans, hR2⟩ := s_spoil l hl0 dC dI cA cL h0 q0 q1 q2 q3 q4 q5 o0 g0 r1 r2 r3 r4 r5 fo w ce nm tl tc tw we wr T n z wtc wia off cd (xs (3 * j + 1)) (xs (3 * j + 2)) hR
  refine lv_aload_n hx hb dL_law_639 rfl (lv_at hl 1 rfl) ?_
  refine lv_aload_n hx hb dL_law_640 rfl (lv_at hl 0 rfl) ?_
  refine lv_iload hx hb dL_law_641 (lv_at hl 4 rfl) ?_
  refine lv_iconst (v := (nI 1)) hx hb dL_law_643 (by decide) ?_
  refine kv_addE (d := 3 * j + 1) hx hb (by omega) dL_law_644 ?_
  refine kv_sld hx hb hX hbl hbA hS (t := (3 * j + 1)) (by omega) (by omega) dL_law_645 ?_
  refine lv_aload_n hx hb dL_law_646 rfl (lv_at hl 0 rfl) ?_
  refine lv_iload hx hb dL_law_647 (lv_at hl 4 rfl) ?_
  refine lv_iconst (v := (nI 2)) hx hb dL_law_649 (by decide) ?_
  refine kv_addE (d := 3 * j + 2) hx hb (by omega) dL_law_650 ?_
  refine kv_sld hx hb hX hbl hbA hS (t := (3 * j + 2)) (by omega) (by omega) dL_law_651 ?_
  refine lv_aload_n hx hb dL_law_652 rfl (lv_at hl 3 rfl) ?_
  refine kc_call (Xr := wX1 cA g0 r1 r2 r3 r4 r5 ce w we wr nm n T cd off wtc wia) (n := 4) hc hx hb hml hown hts gL_law_L_spoil rfl ⟨rfl, rfl⟩ ⟨by decide +kernel, by decide +kernel, by decide +kernel⟩ rfl ⟨Nat.le_of_ble_eq_true rfl, Nat.le_of_ble_eq_true rfl⟩ hK hP hD hS hA hZ hN [0, 1] [0, 1, 2, 3, 4, 5, 6, 13] [7, 8, 9, 10, 11, 12] rfl rfl rfl (by decide) (by decide) rfl (by decide) hl.1 rfl (Nat.le_of_ble_eq_true rfl) dL_law_653 hcs (fun H locs hP hD hS => ?_)
  have hP := hP.sub (ws' := wX0 cA h0 q0 q1 q2 q3 q4 q5 w2 ce2 nm2 tl2 tc2 tw2 T2 n2 z2 wtc2 wia2 off2 ++ (wX1 cA g0 r1 r2 r3 r4 r5 ce w we wr nm n T cd off wtc wia ++ wO cL o0 fo2)) [6, 7, 8, 9, 10, 11, 12, 0, 1, 2, 3, 4, 5, 13] rfl
  have hD := hD.sub (ws' := wX0 cA h0 q0 q1 q2 q3 q4 q5 w2 ce2 nm2 tl2 tc2 tw2 T2 n2 z2 wtc2 wia2 off2 ++ (wX1 cA g0 r1 r2 r3 r4 r5 ce w we wr nm n T cd off wtc wia ++ wO cL o0 fo2)) [6, 7, 8, 9, 10, 11, 12, 0, 1, 2, 3, 4, 5, 13] (by decide) rfl
  refine lv_istore (lv' := [(5, .int (nI k)), (0, .ref b), (1, .ref h0), (2, .ref g0), (3, .ref o0), (4, .int (nI (3 * j)))]) hx hb dL_law_656 hl (by decide) rfl (fun ls hl => ?_)
  refine lv_aload_n hx hb dL_law_658 rfl (lv_at hl 3 rfl) ?_
  refine lv_aload_n hx hb dL_law_659 rfl (lv_at hl 1 rfl) ?_
  refine lv_iload hx hb dL_law_660 (lv_at hl 5 rfl) ?_
  refine lv_iconst (v := (nI 1)) hx hb dL_law_662 (by decide) ?_
  refine kv_addE (d := 3 * j + 1) hx hb (by omega) dL_law_663 ?_
  refine kv_sld hx hb hX hbl hbA hS (t := (3 * j + 1)) (by omega) (by omega) dL_law_664 ?_
  refine lv_aload_n hx hb dL_law_665 rfl (lv_at hl 1 rfl) ?_
  refine lv_iload hx hb dL_law_666 (lv_at hl 5 rfl) ?_
  refine lv_iconst (v := (nI 2)) hx hb dL_law_668 (by decide) ?_
  refine kv_addE (d := 3 * j + 2) hx hb (by omega) dL_law_669 ?_
  refine kv_sld hx hb hX hbl hbA hS (t := (3 * j + 2)) (by omega) (by omega) dL_law_670 ?_
  refine kv_Vi (Xr := wX0 cA h0 q0 q1 q2 q3 q4 q5 w2 ce2 nm2 tl2 tc2 tw2 T2 n2 z2 wtc2 wia2 off2 ++ wO cL o0 fo2) (n := 2) hm hx hb hml hown hts gL_law_X1_spoil rfl ⟨hrm.1, hrm.2.1⟩ ⟨rfl, by decide +kernel, by decide +kernel, by decide +kernel⟩ rfl ⟨Nat.le_trans (Nat.succ_le_succ hrm.2.2.1) (Nat.le_of_ble_eq_true rfl), Nat.le_trans (Nat.add_le_add_left hrm.2.2.2 _) (Nat.le_of_ble_eq_true rfl)⟩ hK hP hD hS hA [0] [7, 8, 9, 10, 11, 12] [0, 1, 2, 3, 4, 5, 6, 13] rfl rfl rfl (by decide) (by decide) (q0 := 0) rfl rfl rfl (by decide) hl.1 rfl (Nat.le_of_ble_eq_true rfl) dL_law_671 ⟨by have := hcs.1; show cells + 1 ≤ 1049; omega, by have := hcs.2; show slots + 6 ≤ 11870; omega⟩ (fun H locs hP hD hS => ?_)
  have hP := hP.sub (ws' := wX0 cA h0 q0 q1 q2 q3 q4 q5 w2 ce2 nm2 tl2 tc2 tw2 T2 n2 z2 wtc2 wia2 off2 ++ (wX1 cA g0 r1 r2 r3 r4 r5 ce2 w2 we2 wr2 nm2 n2 T2 (nI k) off2 wtc2 wia2 ++ wO cL o0 fo2)) [0, 1, 2, 3, 4, 5, 6, 8, 9, 10, 11, 12, 13, 7] rfl
  have hD := hD.sub (ws' := wX0 cA h0 q0 q1 q2 q3 q4 q5 w2 ce2 nm2 tl2 tc2 tw2 T2 n2 z2 wtc2 wia2 off2 ++ (wX1 cA g0 r1 r2 r3 r4 r5 ce2 w2 we2 wr2 nm2 n2 T2 (nI k) off2 wtc2 wia2 ++ wO cL o0 fo2)) [0, 1, 2, 3, 4, 5, 6, 8, 9, 10, 11, 12, 13, 7] (by decide) rfl
  refine lv_istore (lv' := [(6, .int r), (5, .int (nI k)), (0, .ref b), (1, .ref h0), (2, .ref g0), (3, .ref o0), (4, .int (nI (3 * j)))]) hx hb dL_law_674 hl (by decide) rfl (fun ls hl => ?_)
  refine lv_aload_n hx hb dL_law_676 rfl (lv_at hl 4 rfl) ?_
  refine kv_Vi (Xr := wX0 cA h0 q0 q1 q2 q3 q4 q5 w2 ce2 nm2 tl2 tc2 tw2 T2 n2 z2 wtc2 wia2 off2 ++ wO cL o0 fo2) (n := 0) (c_X1_thrown l dC dI cA g0 r1 r2 r3 r4 r5 ce2 w2 we2 wr2 nm2 n2 T2 (nI k) off2 wtc2 wia2) hx hb hml hown hts gL_law_X1_thrown rfl ⟨rfl, rfl⟩ ⟨rfl, by decide +kernel, by decide +kernel, by decide +kernel⟩ rfl ⟨Nat.le_of_ble_eq_true rfl, Nat.le_of_ble_eq_true rfl⟩ hK hP hD hS hA [0] [7, 8, 9, 10, 11, 12] [0, 1, 2, 3, 4, 5, 6, 13] rfl rfl rfl (by decide) (by decide) (q0 := 0) rfl rfl rfl (by decide) hl.1 rfl (Nat.le_of_ble_eq_true rfl) dL_law_677 ⟨by have := hcs.1; show cells + 1 ≤ 1049; omega, by have := hcs.2; show slots + 6 ≤ 11870; omega⟩ (fun H locs hP hD hS => ?_)
  have hP := hP.sub (ws' := wX0 cA h0 q0 q1 q2 q3 q4 q5 w2 ce2 nm2 tl2 tc2 tw2 T2 n2 z2 wtc2 wia2 off2 ++ (wX1 cA g0 r1 r2 r3 r4 r5 ce2 w2 we2 wr2 nm2 n2 T2 (nI k) off2 wtc2 wia2 ++ wO cL o0 fo2)) [0, 1, 2, 3, 4, 5, 6, 8, 9, 10, 11, 12, 13, 7] rfl
  have hD := hD.sub (ws' := wX0 cA h0 q0 q1 q2 q3 q4 q5 w2 ce2 nm2 tl2 tc2 tw2 T2 n2 z2 wtc2 wia2 off2 ++ (wX1 cA g0 r1 r2 r3 r4 r5 ce2 w2 we2 wr2 nm2 n2 T2 (nI k) off2 wtc2 wia2 ++ wO cL o0 fo2)) [0, 1, 2, 3, 4, 5, 6, 8, 9, 10, 11, 12, 13, 7] (by decide) rfl
  refine lv_iload hx hb dL_law_680 (lv_at hl 1 rfl) ?_
  refine lv_icmp_eq (tgt := 687) hx hb dL_law_682 (by decide) (fun _ => ?_) (fun h9 => absurd rfl h9)
  refine lv_iload hx hb dL_law_687 (lv_at hl 1 rfl) ?_
  refine kv_if_ne (tgt := 704) hx hb (by omega) dL_law_689 (by decide) (fun h9 => ?_) (fun h9 => ?_)
  · refine lv_goto (tgt := 831) hx hb dL_law_704 (by decide) ?_
    exact hnext _ _ _ _ _ _ _ _ _ _ _ _ _ _ _ _ hR2 H locs hP hD hS ls (lv_sub hl [2, 3, 4, 5, 6] rfl)
  refine lv_aload_n hx hb dL_law_692 rfl (lv_at hl 5 rfl) ?_
  refine lv_iconst (v := (nI 0)) hx hb dL_law_693 (by decide) ?_
  refine va_lald (D := (dC, dI)) hx hb hK hP 13 1 rfl rfl ko_in dL_law_694 ?_
  refine kv_top (w := .long (r.toInt64)) (congrArg Value.long (hans h9)) ?_
  refine lv_iload hx hb dL_law_695 (lv_at hl 0 rfl) ?_
  refine lv_i2l hx hb dL_law_697 rfl ?_
  refine W.lcmp hx hb dL_law_698 ?_
  refine kv_top (w := .int (nI 0)) (congrArg Value.int (kl_cmp _)) ?_
  refine kv_if_eq (tgt := 704) hx hb (by omega) dL_law_699 (by decide) (fun _ => ?_) (fun h8 => absurd h8 (by omega))
  refine lv_goto (tgt := 831) hx hb dL_law_704 (by decide) ?_
  exact hnext _ _ _ _ _ _ _ _ _ _ _ _ _ _ _ _ hR2 H locs hP hD hS ls (lv_sub hl [2, 3, 4, 5, 6] rfl)
set_option maxHeartbeats 4000000 in
set_option maxRecDepth 100000 in
theorem w_level {p : Program} {l : Launch} {e : Env} {s : State} {m : MethodId} {below : List Frame} {meth : Method} {c : Code} (dC : Nat → ClassId) (dI : Nat → Nat → Nat) {b L : Nat} {xs : Nat → Int32} (hl0 : l.stackTraces = false) (hL : L ≤ 1536) (C0 : lw_At p s m meth c b L xs) (cA cL : ClassId) (h0 q0 q1 q2 q3 q4 q5 g0 r1 r2 r3 r4 r5 o0 : Nat) (hK : va_K (dC, dI) vwCl [(cA, .int), (cL, .long)] s) (hZ : kZ (fun q : Nat => s.heap.size ≤ q) s) (hN : va_Nc kISE kIAE s) (j : Nat) (hj : 3 * j + 3 ≤ L) (cells slots : Nat) (hcs : cells + 1 ≤ 1049 ∧ slots + 6 ≤ 11870) (hnext : kGo p l e s m below meth c dC dI b cA cL h0 q0 q1 q2 q3 q4 q5 g0 r1 r2 r3 r4 r5 o0 j (cells + 1) (slots + 6) 831) : kGo p l e s m below meth c dC dI b cA cL h0 q0 q1 q2 q3 q4 q5 g0 r1 r2 r3 r4 r5 o0 j cells slots 707 := by
  intro fo w ce nm tl tc tw we wr T n z wtc wia off cd hR H locs hP hD hS ls hl
  obtain ⟨hx, hb, hr, hml, hown, hts0, hX, hbl, hlocks, hgv⟩ := id C0
  have hts : ∀ w ∈ wsL_law, w.before #[Value.ref b] s = true := fun w h => hts0 w (wsL_law_in w h)
  have hA : ∀ q : Nat, s.heap.size ≤ q → (fun q : Nat => s.heap.size ≤ q) q := fun _ h => h
  have hbA : ¬ (fun q : Nat => s.heap.size ≤ q) b := Nat.not_le.mpr hbl
  obtain ⟨k, r, rm, fo2, w2, ce2, nm2, tl2, tc2, tw2, we2, wr2, T2, n2, z2, wtc2, wia2, off2, hk2, hc, hm, hrm, hans, hR2⟩ := s_level l hl0 dC dI cA cL h0 q0 q1 q2 q3 q4 q5 o0 g0 r1 r2 r3 r4 r5 fo w ce nm tl tc tw we wr T n z wtc wia off cd (xs (3 * j + 1)) (xs (3 * j + 2)) hR
  refine lv_aload_n hx hb dL_law_707 rfl (lv_at hl 1 rfl) ?_
  refine lv_aload_n hx hb dL_law_708 rfl (lv_at hl 0 rfl) ?_
  refine lv_iload hx hb dL_law_709 (lv_at hl 4 rfl) ?_
  refine lv_iconst (v := (nI 1)) hx hb dL_law_711 (by decide) ?_
  refine kv_addE (d := 3 * j + 1) hx hb (by omega) dL_law_712 ?_
  refine kv_sld hx hb hX hbl hbA hS (t := (3 * j + 1)) (by omega) (by omega) dL_law_713 ?_
  refine lv_aload_n hx hb dL_law_714 rfl (lv_at hl 0 rfl) ?_
  refine lv_iload hx hb dL_law_715 (lv_at hl 4 rfl) ?_
  refine lv_iconst (v := (nI 2)) hx hb dL_law_717 (by decide) ?_
  refine kv_addE (d := 3 * j + 2) hx hb (by omega) dL_law_718 ?_
  refine kv_sld hx hb hX hbl hbA hS (t := (3 * j + 2)) (by omega) (by omega) dL_law_719 ?_
  refine lv_aload_n hx hb dL_law_720 rfl (lv_at hl 3 rfl) ?_
  refine kc_call (Xr := wX1 cA g0 r1 r2 r3 r4 r5 ce w we wr nm n T cd off wtc wia) (n := 4) hc hx hb hml hown hts gL_law_L_level rfl ⟨rfl, rfl⟩ ⟨by decide +kernel, by decide +kernel, by decide +kernel⟩ rfl ⟨Nat.le_of_ble_eq_true rfl, Nat.le_of_ble_eq_true rfl⟩ hK hP hD hS hA hZ hN [0, 1] [0, 1, 2, 3, 4, 5, 6, 13] [7, 8, 9, 10, 11, 12] rfl rfl rfl (by decide) (by decide) rfl (by decide) hl.1 rfl (Nat.le_of_ble_eq_true rfl) dL_law_721 hcs (fun H locs hP hD hS => ?_)
  have hP := hP.sub (ws' := wX0 cA h0 q0 q1 q2 q3 q4 q5 w2 ce2 nm2 tl2 tc2 tw2 T2 n2 z2 wtc2 wia2 off2 ++ (wX1 cA g0 r1 r2 r3 r4 r5 ce w we wr nm n T cd off wtc wia ++ wO cL o0 fo2)) [6, 7, 8, 9, 10, 11, 12, 0, 1, 2, 3, 4, 5, 13] rfl
  have hD := hD.sub (ws' := wX0 cA h0 q0 q1 q2 q3 q4 q5 w2 ce2 nm2 tl2 tc2 tw2 T2 n2 z2 wtc2 wia2 off2 ++ (wX1 cA g0 r1 r2 r3 r4 r5 ce w we wr nm n T cd off wtc wia ++ wO cL o0 fo2)) [6, 7, 8, 9, 10, 11, 12, 0, 1, 2, 3, 4, 5, 13] (by decide) rfl
  refine lv_istore (lv' := [(5, .int (nI k)), (0, .ref b), (1, .ref h0), (2, .ref g0), (3, .ref o0), (4, .int (nI (3 * j)))]) hx hb dL_law_724 hl (by decide) rfl (fun ls hl => ?_)
  refine lv_aload_n hx hb dL_law_726 rfl (lv_at hl 3 rfl) ?_
  refine lv_aload_n hx hb dL_law_727 rfl (lv_at hl 1 rfl) ?_
  refine lv_iload hx hb dL_law_728 (lv_at hl 5 rfl) ?_
  refine lv_iconst (v := (nI 1)) hx hb dL_law_730 (by decide) ?_
  refine kv_addE (d := 3 * j + 1) hx hb (by omega) dL_law_731 ?_
  refine kv_sld hx hb hX hbl hbA hS (t := (3 * j + 1)) (by omega) (by omega) dL_law_732 ?_
  refine lv_aload_n hx hb dL_law_733 rfl (lv_at hl 1 rfl) ?_
  refine lv_iload hx hb dL_law_734 (lv_at hl 5 rfl) ?_
  refine lv_iconst (v := (nI 2)) hx hb dL_law_736 (by decide) ?_
  refine kv_addE (d := 3 * j + 2) hx hb (by omega) dL_law_737 ?_
  refine kv_sld hx hb hX hbl hbA hS (t := (3 * j + 2)) (by omega) (by omega) dL_law_738 ?_
  refine kv_Vi (Xr := wX0 cA h0 q0 q1 q2 q3 q4 q5 w2 ce2 nm2 tl2 tc2 tw2 T2 n2 z2 wtc2 wia2 off2 ++ wO cL o0 fo2) (n := 2) hm hx hb hml hown hts gL_law_X1_level rfl ⟨hrm.1, hrm.2.1⟩ ⟨rfl, by decide +kernel, by decide +kernel, by decide +kernel⟩ rfl ⟨Nat.le_trans (Nat.succ_le_succ hrm.2.2.1) (Nat.le_of_ble_eq_true rfl), Nat.le_trans (Nat.add_le_add_left hrm.2.2.2 _) (Nat.le_of_ble_eq_true rfl)⟩ hK hP hD hS hA [0] [7, 8, 9, 10, 11, 12] [0, 1, 2, 3, 4, 5, 6, 13] rfl rfl rfl (by decide) (by decide) (q0 := 0) rfl rfl rfl (by decide) hl.1 rfl (Nat.le_of_ble_eq_true rfl) dL_law_739 ⟨by have := hcs.1; show cells + 1 ≤ 1049; omega, by have := hcs.2; show slots + 6 ≤ 11870; omega⟩ (fun H locs hP hD hS => ?_)
  have hP := hP.sub (ws' := wX0 cA h0 q0 q1 q2 q3 q4 q5 w2 ce2 nm2 tl2 tc2 tw2 T2 n2 z2 wtc2 wia2 off2 ++ (wX1 cA g0 r1 r2 r3 r4 r5 ce2 w2 we2 wr2 nm2 n2 T2 (nI k) off2 wtc2 wia2 ++ wO cL o0 fo2)) [0, 1, 2, 3, 4, 5, 6, 8, 9, 10, 11, 12, 13, 7] rfl
  have hD := hD.sub (ws' := wX0 cA h0 q0 q1 q2 q3 q4 q5 w2 ce2 nm2 tl2 tc2 tw2 T2 n2 z2 wtc2 wia2 off2 ++ (wX1 cA g0 r1 r2 r3 r4 r5 ce2 w2 we2 wr2 nm2 n2 T2 (nI k) off2 wtc2 wia2 ++ wO cL o0 fo2)) [0, 1, 2, 3, 4, 5, 6, 8, 9, 10, 11, 12, 13, 7] (by decide) rfl
  refine lv_istore (lv' := [(6, .int r), (5, .int (nI k)), (0, .ref b), (1, .ref h0), (2, .ref g0), (3, .ref o0), (4, .int (nI (3 * j)))]) hx hb dL_law_742 hl (by decide) rfl (fun ls hl => ?_)
  refine lv_aload_n hx hb dL_law_744 rfl (lv_at hl 4 rfl) ?_
  refine kv_Vi (Xr := wX0 cA h0 q0 q1 q2 q3 q4 q5 w2 ce2 nm2 tl2 tc2 tw2 T2 n2 z2 wtc2 wia2 off2 ++ wO cL o0 fo2) (n := 0) (c_X1_thrown l dC dI cA g0 r1 r2 r3 r4 r5 ce2 w2 we2 wr2 nm2 n2 T2 (nI k) off2 wtc2 wia2) hx hb hml hown hts gL_law_X1_thrown rfl ⟨rfl, rfl⟩ ⟨rfl, by decide +kernel, by decide +kernel, by decide +kernel⟩ rfl ⟨Nat.le_of_ble_eq_true rfl, Nat.le_of_ble_eq_true rfl⟩ hK hP hD hS hA [0] [7, 8, 9, 10, 11, 12] [0, 1, 2, 3, 4, 5, 6, 13] rfl rfl rfl (by decide) (by decide) (q0 := 0) rfl rfl rfl (by decide) hl.1 rfl (Nat.le_of_ble_eq_true rfl) dL_law_745 ⟨by have := hcs.1; show cells + 1 ≤ 1049; omega, by have := hcs.2; show slots + 6 ≤ 11870; omega⟩ (fun H locs hP hD hS => ?_)
  have hP := hP.sub (ws' := wX0 cA h0 q0 q1 q2 q3 q4 q5 w2 ce2 nm2 tl2 tc2 tw2 T2 n2 z2 wtc2 wia2 off2 ++ (wX1 cA g0 r1 r2 r3 r4 r5 ce2 w2 we2 wr2 nm2 n2 T2 (nI k) off2 wtc2 wia2 ++ wO cL o0 fo2)) [0, 1, 2, 3, 4, 5, 6, 8, 9, 10, 11, 12, 13, 7] rfl
  have hD := hD.sub (ws' := wX0 cA h0 q0 q1 q2 q3 q4 q5 w2 ce2 nm2 tl2 tc2 tw2 T2 n2 z2 wtc2 wia2 off2 ++ (wX1 cA g0 r1 r2 r3 r4 r5 ce2 w2 we2 wr2 nm2 n2 T2 (nI k) off2 wtc2 wia2 ++ wO cL o0 fo2)) [0, 1, 2, 3, 4, 5, 6, 8, 9, 10, 11, 12, 13, 7] (by decide) rfl
  refine lv_iload hx hb dL_law_748 (lv_at hl 1 rfl) ?_
  refine lv_icmp_eq (tgt := 755) hx hb dL_law_750 (by decide) (fun _ => ?_) (fun h9 => absurd rfl h9)
  refine lv_iload hx hb dL_law_755 (lv_at hl 1 rfl) ?_
  refine kv_if_ne (tgt := 772) hx hb (by omega) dL_law_757 (by decide) (fun h9 => ?_) (fun h9 => ?_)
  · refine lv_goto (tgt := 831) hx hb dL_law_772 (by decide) ?_
    exact hnext _ _ _ _ _ _ _ _ _ _ _ _ _ _ _ _ hR2 H locs hP hD hS ls (lv_sub hl [2, 3, 4, 5, 6] rfl)
  refine lv_aload_n hx hb dL_law_760 rfl (lv_at hl 5 rfl) ?_
  refine lv_iconst (v := (nI 0)) hx hb dL_law_761 (by decide) ?_
  refine va_lald (D := (dC, dI)) hx hb hK hP 13 1 rfl rfl ko_in dL_law_762 ?_
  refine kv_top (w := .long (r.toInt64)) (congrArg Value.long (hans h9)) ?_
  refine lv_iload hx hb dL_law_763 (lv_at hl 0 rfl) ?_
  refine lv_i2l hx hb dL_law_765 rfl ?_
  refine W.lcmp hx hb dL_law_766 ?_
  refine kv_top (w := .int (nI 0)) (congrArg Value.int (kl_cmp _)) ?_
  refine kv_if_eq (tgt := 772) hx hb (by omega) dL_law_767 (by decide) (fun _ => ?_) (fun h8 => absurd h8 (by omega))
  refine lv_goto (tgt := 831) hx hb dL_law_772 (by decide) ?_
  exact hnext _ _ _ _ _ _ _ _ _ _ _ _ _ _ _ _ hR2 H locs hP hD hS ls (lv_sub hl [2, 3, 4, 5, 6] rfl)
set_option maxHeartbeats 4000000 in
set_option maxRecDepth 100000 in
theorem w_about {p : Program} {l : Launch} {e : Env} {s : State} {m : MethodId} {below : List Frame} {meth : Method} {c : Code} (dC : Nat → ClassId) (dI : Nat → Nat → Nat) {b L : Nat} {xs : Nat → Int32} (hl0 : l.stackTraces = false) (hL : L ≤ 1536) (C0 : lw_At p s m meth c b L xs) (cA cL : ClassId) (h0 q0 q1 q2 q3 q4 q5 g0 r1 r2 r3 r4 r5 o0 : Nat) (hK : va_K (dC, dI) vwCl [(cA, .int), (cL, .long)] s) (hZ : kZ (fun q : Nat => s.heap.size ≤ q) s) (hN : va_Nc kISE kIAE s) (j : Nat) (hj : 3 * j + 3 ≤ L) (cells slots : Nat) (hcs : cells + 1 ≤ 1049 ∧ slots + 6 ≤ 11870) (hnext : kGo p l e s m below meth c dC dI b cA cL h0 q0 q1 q2 q3 q4 q5 g0 r1 r2 r3 r4 r5 o0 j (cells + 1) (slots + 6) 831) : kGo p l e s m below meth c dC dI b cA cL h0 q0 q1 q2 q3 q4 q5 g0 r1 r2 r3 r4 r5 o0 j cells slots 775 := by
  intro fo w ce nm tl tc tw we wr T n z wtc wia off cd hR H locs hP hD hS ls hl
  obtain ⟨hx, hb, hr, hml, hown, hts0, hX, hbl, hlocks, hgv⟩ := id C0
  have hts : ∀ w ∈ wsL_law, w.before #[Value.ref b] s = true := fun w h => hts0 w (wsL_law_in w h)
  have hA : ∀ q : Nat, s.heap.size ≤ q → (fun q : Nat => s.heap.size ≤ q) q := fun _ h => h
  have hbA : ¬ (fun q : Nat => s.heap.size ≤ q) b := Nat.not_le.mpr hbl
  obtain ⟨k, r, rm, fo2, w2, ce2, nm2, tl2, tc2, tw2, we2, wr2, T2, n2, z2, wtc2, wia2, off2, hk2, hc, hm, hrm, hans, hR2⟩ := s_about l hl0 dC dI cA cL h0 q0 q1 q2 q3 q4 q5 o0 g0 r1 r2 r3 r4 r5 fo w ce nm tl tc tw we wr T n z wtc wia off cd (xs (3 * j + 1)) hR
  refine lv_aload_n hx hb dL_law_775 rfl (lv_at hl 1 rfl) ?_
  refine lv_aload_n hx hb dL_law_776 rfl (lv_at hl 0 rfl) ?_
  refine lv_iload hx hb dL_law_777 (lv_at hl 4 rfl) ?_
  refine lv_iconst (v := (nI 1)) hx hb dL_law_779 (by decide) ?_
  refine kv_addE (d := 3 * j + 1) hx hb (by omega) dL_law_780 ?_
  refine kv_sld hx hb hX hbl hbA hS (t := (3 * j + 1)) (by omega) (by omega) dL_law_781 ?_
  refine lv_aload_n hx hb dL_law_782 rfl (lv_at hl 3 rfl) ?_
  refine kc_call (Xr := wX1 cA g0 r1 r2 r3 r4 r5 ce w we wr nm n T cd off wtc wia) (n := 3) hc hx hb hml hown hts gL_law_L_about rfl ⟨rfl, rfl⟩ ⟨by decide +kernel, by decide +kernel, by decide +kernel⟩ rfl ⟨Nat.le_of_ble_eq_true rfl, Nat.le_of_ble_eq_true rfl⟩ hK hP hD hS hA hZ hN [0, 1] [0, 1, 2, 3, 4, 5, 6, 13] [7, 8, 9, 10, 11, 12] rfl rfl rfl (by decide) (by decide) rfl (by decide) hl.1 rfl (Nat.le_of_ble_eq_true rfl) dL_law_783 hcs (fun H locs hP hD hS => ?_)
  have hP := hP.sub (ws' := wX0 cA h0 q0 q1 q2 q3 q4 q5 w2 ce2 nm2 tl2 tc2 tw2 T2 n2 z2 wtc2 wia2 off2 ++ (wX1 cA g0 r1 r2 r3 r4 r5 ce w we wr nm n T cd off wtc wia ++ wO cL o0 fo2)) [6, 7, 8, 9, 10, 11, 12, 0, 1, 2, 3, 4, 5, 13] rfl
  have hD := hD.sub (ws' := wX0 cA h0 q0 q1 q2 q3 q4 q5 w2 ce2 nm2 tl2 tc2 tw2 T2 n2 z2 wtc2 wia2 off2 ++ (wX1 cA g0 r1 r2 r3 r4 r5 ce w we wr nm n T cd off wtc wia ++ wO cL o0 fo2)) [6, 7, 8, 9, 10, 11, 12, 0, 1, 2, 3, 4, 5, 13] (by decide) rfl
  refine lv_istore (lv' := [(5, .int (nI k)), (0, .ref b), (1, .ref h0), (2, .ref g0), (3, .ref o0), (4, .int (nI (3 * j)))]) hx hb dL_law_786 hl (by decide) rfl (fun ls hl => ?_)
  refine lv_aload_n hx hb dL_law_788 rfl (lv_at hl 3 rfl) ?_
  refine lv_aload_n hx hb dL_law_789 rfl (lv_at hl 1 rfl) ?_
  refine lv_iload hx hb dL_law_790 (lv_at hl 5 rfl) ?_
  refine lv_iconst (v := (nI 1)) hx hb dL_law_792 (by decide) ?_
  refine kv_addE (d := 3 * j + 1) hx hb (by omega) dL_law_793 ?_
  refine kv_sld hx hb hX hbl hbA hS (t := (3 * j + 1)) (by omega) (by omega) dL_law_794 ?_
  refine kv_Vi (Xr := wX0 cA h0 q0 q1 q2 q3 q4 q5 w2 ce2 nm2 tl2 tc2 tw2 T2 n2 z2 wtc2 wia2 off2 ++ wO cL o0 fo2) (n := 1) hm hx hb hml hown hts gL_law_X1_about rfl ⟨hrm.1, hrm.2.1⟩ ⟨rfl, by decide +kernel, by decide +kernel, by decide +kernel⟩ rfl ⟨Nat.le_trans (Nat.succ_le_succ hrm.2.2.1) (Nat.le_of_ble_eq_true rfl), Nat.le_trans (Nat.add_le_add_left hrm.2.2.2 _) (Nat.le_of_ble_eq_true rfl)⟩ hK hP hD hS hA [0] [7, 8, 9, 10, 11, 12] [0, 1, 2, 3, 4, 5, 6, 13] rfl rfl rfl (by decide) (by decide) (q0 := 0) rfl rfl rfl (by decide) hl.1 rfl (Nat.le_of_ble_eq_true rfl) dL_law_795 ⟨by have := hcs.1; show cells + 1 ≤ 1049; omega, by have := hcs.2; show slots + 6 ≤ 11870; omega⟩ (fun H locs hP hD hS => ?_)
  have hP := hP.sub (ws' := wX0 cA h0 q0 q1 q2 q3 q4 q5 w2 ce2 nm2 tl2 tc2 tw2 T2 n2 z2 wtc2 wia2 off2 ++ (wX1 cA g0 r1 r2 r3 r4 r5 ce2 w2 we2 wr2 nm2 n2 T2 (nI k) off2 wtc2 wia2 ++ wO cL o0 fo2)) [0, 1, 2, 3, 4, 5, 6, 8, 9, 10, 11, 12, 13, 7] rfl
  have hD := hD.sub (ws' := wX0 cA h0 q0 q1 q2 q3 q4 q5 w2 ce2 nm2 tl2 tc2 tw2 T2 n2 z2 wtc2 wia2 off2 ++ (wX1 cA g0 r1 r2 r3 r4 r5 ce2 w2 we2 wr2 nm2 n2 T2 (nI k) off2 wtc2 wia2 ++ wO cL o0 fo2)) [0, 1, 2, 3, 4, 5, 6, 8, 9, 10, 11, 12, 13, 7] (by decide) rfl
  refine lv_istore (lv' := [(6, .int r), (5, .int (nI k)), (0, .ref b), (1, .ref h0), (2, .ref g0), (3, .ref o0), (4, .int (nI (3 * j)))]) hx hb dL_law_798 hl (by decide) rfl (fun ls hl => ?_)
  refine lv_aload_n hx hb dL_law_800 rfl (lv_at hl 4 rfl) ?_
  refine kv_Vi (Xr := wX0 cA h0 q0 q1 q2 q3 q4 q5 w2 ce2 nm2 tl2 tc2 tw2 T2 n2 z2 wtc2 wia2 off2 ++ wO cL o0 fo2) (n := 0) (c_X1_thrown l dC dI cA g0 r1 r2 r3 r4 r5 ce2 w2 we2 wr2 nm2 n2 T2 (nI k) off2 wtc2 wia2) hx hb hml hown hts gL_law_X1_thrown rfl ⟨rfl, rfl⟩ ⟨rfl, by decide +kernel, by decide +kernel, by decide +kernel⟩ rfl ⟨Nat.le_of_ble_eq_true rfl, Nat.le_of_ble_eq_true rfl⟩ hK hP hD hS hA [0] [7, 8, 9, 10, 11, 12] [0, 1, 2, 3, 4, 5, 6, 13] rfl rfl rfl (by decide) (by decide) (q0 := 0) rfl rfl rfl (by decide) hl.1 rfl (Nat.le_of_ble_eq_true rfl) dL_law_801 ⟨by have := hcs.1; show cells + 1 ≤ 1049; omega, by have := hcs.2; show slots + 6 ≤ 11870; omega⟩ (fun H locs hP hD hS => ?_)
  have hP := hP.sub (ws' := wX0 cA h0 q0 q1 q2 q3 q4 q5 w2 ce2 nm2 tl2 tc2 tw2 T2 n2 z2 wtc2 wia2 off2 ++ (wX1 cA g0 r1 r2 r3 r4 r5 ce2 w2 we2 wr2 nm2 n2 T2 (nI k) off2 wtc2 wia2 ++ wO cL o0 fo2)) [0, 1, 2, 3, 4, 5, 6, 8, 9, 10, 11, 12, 13, 7] rfl
  have hD := hD.sub (ws' := wX0 cA h0 q0 q1 q2 q3 q4 q5 w2 ce2 nm2 tl2 tc2 tw2 T2 n2 z2 wtc2 wia2 off2 ++ (wX1 cA g0 r1 r2 r3 r4 r5 ce2 w2 we2 wr2 nm2 n2 T2 (nI k) off2 wtc2 wia2 ++ wO cL o0 fo2)) [0, 1, 2, 3, 4, 5, 6, 8, 9, 10, 11, 12, 13, 7] (by decide) rfl
  refine lv_iload hx hb dL_law_804 (lv_at hl 1 rfl) ?_
  refine lv_icmp_eq (tgt := 811) hx hb dL_law_806 (by decide) (fun _ => ?_) (fun h9 => absurd rfl h9)
  refine lv_iload hx hb dL_law_811 (lv_at hl 1 rfl) ?_
  refine kv_if_ne (tgt := 828) hx hb (by omega) dL_law_813 (by decide) (fun h9 => ?_) (fun h9 => ?_)
  · refine lv_goto (tgt := 831) hx hb dL_law_828 (by decide) ?_
    exact hnext _ _ _ _ _ _ _ _ _ _ _ _ _ _ _ _ hR2 H locs hP hD hS ls (lv_sub hl [2, 3, 4, 5, 6] rfl)
  refine lv_aload_n hx hb dL_law_816 rfl (lv_at hl 5 rfl) ?_
  refine lv_iconst (v := (nI 0)) hx hb dL_law_817 (by decide) ?_
  refine va_lald (D := (dC, dI)) hx hb hK hP 13 1 rfl rfl ko_in dL_law_818 ?_
  refine kv_top (w := .long (r.toInt64)) (congrArg Value.long (hans h9)) ?_
  refine lv_iload hx hb dL_law_819 (lv_at hl 0 rfl) ?_
  refine lv_i2l hx hb dL_law_821 rfl ?_
  refine W.lcmp hx hb dL_law_822 ?_
  refine kv_top (w := .int (nI 0)) (congrArg Value.int (kl_cmp _)) ?_
  refine kv_if_eq (tgt := 828) hx hb (by omega) dL_law_823 (by decide) (fun _ => ?_) (fun h8 => absurd h8 (by omega))
  refine lv_goto (tgt := 831) hx hb dL_law_828 (by decide) ?_
  exact hnext _ _ _ _ _ _ _ _ _ _ _ _ _ _ _ _ hR2 H locs hP hD hS ls (lv_sub hl [2, 3, 4, 5, 6] rfl)
