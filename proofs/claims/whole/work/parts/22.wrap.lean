set_option maxHeartbeats 4000000 in
set_option maxRecDepth 100000 in
theorem cL_begin_ok (l : Launch) (dC : Nat → ClassId) (dI : Nat → Nat → Nat) (cA cL : ClassId) (h0 q0 q1 q2 q3 q4 q5 o0 : Nat) (w ce nm tl tc tw : Nat → Int32) (T n z : Nat) (wtc wia off : Int32) (fo : Nat → Int64) (w2 ce2 nm2 tl2 tc2 tw2 : Nat → Int32) (T2 n2 z2 : Nat) (wtc2 wia2 off2 : Int32)  (r : Int32) (rm : Room) (hM : kMi l yX0_begin wsX0_begin rm dC dI [(cA, .int)] (wX0 cA h0 q0 q1 q2 q3 q4 q5 w ce nm tl tc tw T n z wtc wia off) [.ref h0] r (wX0 cA h0 q0 q1 q2 q3 q4 q5 w2 ce2 nm2 tl2 tc2 tw2 T2 n2 z2 wtc2 wia2 off2)) (hrm : rm.cells = 0 ∧ rm.slots = 0) (hrf : rm.frames ≤ 8 ∧ rm.locals ≤ 130) : kMc l yL_begin wsL_begin ({ frames := 9, cells := 1, slots := 6, locals := 160 }) dC dI [(cA, .int), (cL, .long)] (wX0 cA h0 q0 q1 q2 q3 q4 q5 w ce nm tl tc tw T n z wtc wia off ++ wO cL o0 fo) [.ref h0, .ref o0] (nI 0) (wX0 cA h0 q0 q1 q2 q3 q4 q5 w2 ce2 nm2 tl2 tc2 tw2 T2 n2 z2 wtc2 wia2 off2 ++ wO cL o0 (vp_updL fo 0 r.toInt64)) := by
  refine kc_of (cc := cL_begin) (maxL := 3) (ret := some .int) (by decide) rfl (Nat.le_of_ble_eq_true rfl) ?_
  intro p e s m below meth c A ls hx hb hml hr hts hown hlocks hA hP hK hD hS hZ hN hxt hl
  have hl : lv_has ls 3 [(0, .ref h0), (1, .ref o0)] := hl
  refine lv_aload_n hx hb dL_begin_0 rfl (lv_at hl 1 rfl) ?_
  refine lv_iconst (v := (nI 0)) hx hb dL_begin_1 (by decide) ?_
  refine lv_aload_n hx hb dL_begin_2 rfl (lv_at hl 0 rfl) ?_
  refine kv_Vi (Xr := wO cL o0 fo) (n := 0) hM hx hb hml hown hts gL_begin_X0_begin rfl hrm ⟨rfl, by decide +kernel⟩ rfl ⟨Nat.succ_le_succ hrf.1, Nat.le_trans (Nat.add_le_add_left hrf.2 _) (Nat.le_of_ble_eq_true rfl)⟩ hK hP hD hS hA [0] [0, 1, 2, 3, 4, 5, 6] [7] rfl rfl rfl (by decide) (by decide) (q0 := 0) rfl rfl rfl (by decide) hl.1 rfl (Nat.le_of_ble_eq_true rfl) dL_begin_3 ⟨Nat.zero_le _, Nat.zero_le _⟩ (fun H locs hP hD hS => ?_)
  have hP := hP.sub (ws' := wX0 cA h0 q0 q1 q2 q3 q4 q5 w2 ce2 nm2 tl2 tc2 tw2 T2 n2 z2 wtc2 wia2 off2 ++ wO cL o0 fo) [1, 2, 3, 4, 5, 6, 7, 0] rfl
  have hD := hD.sub (ws' := wX0 cA h0 q0 q1 q2 q3 q4 q5 w2 ce2 nm2 tl2 tc2 tw2 T2 n2 z2 wtc2 wia2 off2 ++ wO cL o0 fo) [1, 2, 3, 4, 5, 6, 7, 0] (by decide) rfl
  refine lv_i2l hx hb dL_begin_6 rfl ?_
  refine va_last (D := (dC, dI)) hx hb hK hP hD hS 7 1 rfl rfl ko_in dL_begin_7 (fun H locs hP hD hS => ?_)
  refine lv_goto (tgt := 14) hx hb dL_begin_8 (by decide) ?_
  refine lv_iconst (v := (nI 0)) hx hb dL_begin_14 (by decide) ?_
  exact kc_ret hx hb hr hlocks hP hK hD hS ⟨Nat.le_of_ble_eq_true rfl, Nat.le_of_ble_eq_true rfl⟩ dL_begin_15 rfl rfl
set_option maxHeartbeats 4000000 in
set_option maxRecDepth 100000 in
theorem cL_begin_xISE (l : Launch) (dC : Nat → ClassId) (dI : Nat → Nat → Nat) (cA cL : ClassId) (h0 q0 q1 q2 q3 q4 q5 o0 : Nat) (w ce nm tl tc tw : Nat → Int32) (T n z : Nat) (wtc wia off : Int32) (fo : Nat → Int64)  (rm : Room) (hM : kMx l yX0_begin wsX0_begin rm dC dI [(cA, .int)] (wX0 cA h0 q0 q1 q2 q3 q4 q5 w ce nm tl tc tw T n z wtc wia off) [.ref h0] kISE) (hrm : rm.cells = 1 ∧ rm.slots = 6) (hrf : rm.frames ≤ 8 ∧ rm.locals ≤ 130) : kMc l yL_begin wsL_begin ({ frames := 9, cells := 1, slots := 6, locals := 160 }) dC dI [(cA, .int), (cL, .long)] (wX0 cA h0 q0 q1 q2 q3 q4 q5 w ce nm tl tc tw T n z wtc wia off ++ wO cL o0 fo) [.ref h0, .ref o0] (nI 1) (wX0 cA h0 q0 q1 q2 q3 q4 q5 w ce nm tl tc tw T n z wtc wia off ++ wO cL o0 fo) := by
  refine kc_of (cc := cL_begin) (maxL := 3) (ret := some .int) (by decide) rfl (Nat.le_of_ble_eq_true rfl) ?_
  intro p e s m below meth c A ls hx hb hml hr hts hown hlocks hA hP hK hD hS hZ hN hxt hl
  have hl : lv_has ls 3 [(0, .ref h0), (1, .ref o0)] := hl
  refine lv_aload_n hx hb dL_begin_0 rfl (lv_at hl 1 rfl) ?_
  refine lv_iconst (v := (nI 0)) hx hb dL_begin_1 (by decide) ?_
  refine lv_aload_n hx hb dL_begin_2 rfl (lv_at hl 0 rfl) ?_
  refine kx_call (Xr := wO cL o0 fo) (n := 0) hM hx hb hml hown hts gL_begin_X0_begin rfl hrm ⟨rfl, by decide +kernel⟩ rfl ⟨Nat.succ_le_succ hrf.1, Nat.le_trans (Nat.add_le_add_left hrf.2 _) (Nat.le_of_ble_eq_true rfl)⟩ hK hP hD hS hA hZ [0] [0, 1, 2, 3, 4, 5, 6] [7] rfl rfl rfl (by decide) (by decide) (q0 := 0) rfl rfl rfl (by decide) hl.1 rfl (Nat.le_of_ble_eq_true rfl) dL_begin_3 ⟨Nat.le_of_ble_eq_true rfl, Nat.le_of_ble_eq_true rfl⟩ (fun ce9 q9 H locs hP hD hS hce hcv hcl => ?_)
  have hP := hP.sub (ws' := wX0 cA h0 q0 q1 q2 q3 q4 q5 w ce nm tl tc tw T n z wtc wia off ++ wO cL o0 fo) [1, 2, 3, 4, 5, 6, 7, 0] rfl
  have hD := hD.sub (ws' := wX0 cA h0 q0 q1 q2 q3 q4 q5 w ce nm tl tc tw T n z wtc wia off ++ wO cL o0 fo) [1, 2, 3, 4, 5, 6, 7, 0] (by decide) rfl
  refine vx_catch (own := RL) (name := kISE) (E := kISE) hown [] ⟨0, 8, 11, 13⟩ [] (by rw [hxt]; rfl) (fun z hz => by simp at hz) (by decide) (by decide) (hts (.classLink RL 13 kISE) (by decide +kernel)) (va_Nw.use rfl (hZ.2.2.1 _ List.mem_cons_self)) hce hcv hcl ?_
  refine lv_astore_n (lv' := [(2, .ref q9), (0, .ref h0), (1, .ref o0)]) hx hb dL_begin_11 rfl hl (by decide) rfl (fun ls hl => ?_)
  refine lv_iconst (v := (nI 1)) hx hb dL_begin_12 (by decide) ?_
  exact kc_ret hx hb hr hlocks hP hK hD hS ⟨Nat.le_of_ble_eq_true rfl, Nat.le_of_ble_eq_true rfl⟩ dL_begin_13 rfl rfl
set_option maxHeartbeats 4000000 in
set_option maxRecDepth 100000 in
theorem cL_write_ok (l : Launch) (dC : Nat → ClassId) (dI : Nat → Nat → Nat) (cA cL : ClassId) (h0 q0 q1 q2 q3 q4 q5 o0 : Nat) (w ce nm tl tc tw : Nat → Int32) (T n z : Nat) (wtc wia off : Int32) (fo : Nat → Int64) (w2 ce2 nm2 tl2 tc2 tw2 : Nat → Int32) (T2 n2 z2 : Nat) (wtc2 wia2 off2 : Int32) (p0 p1 : Int32) (r : Int32) (rm : Room) (hM : kMi l yX0_write wsX0_write rm dC dI [(cA, .int)] (wX0 cA h0 q0 q1 q2 q3 q4 q5 w ce nm tl tc tw T n z wtc wia off) [.ref h0, .int p0, .int p1] r (wX0 cA h0 q0 q1 q2 q3 q4 q5 w2 ce2 nm2 tl2 tc2 tw2 T2 n2 z2 wtc2 wia2 off2)) (hrm : rm.cells = 0 ∧ rm.slots = 0) (hrf : rm.frames ≤ 8 ∧ rm.locals ≤ 130) : kMc l yL_write wsL_write ({ frames := 9, cells := 1, slots := 6, locals := 160 }) dC dI [(cA, .int), (cL, .long)] (wX0 cA h0 q0 q1 q2 q3 q4 q5 w ce nm tl tc tw T n z wtc wia off ++ wO cL o0 fo) [.ref h0, .int p0, .int p1, .ref o0] (nI 0) (wX0 cA h0 q0 q1 q2 q3 q4 q5 w2 ce2 nm2 tl2 tc2 tw2 T2 n2 z2 wtc2 wia2 off2 ++ wO cL o0 (vp_updL fo 0 r.toInt64)) := by
  refine kc_of (cc := cL_write) (maxL := 5) (ret := some .int) (by decide) rfl (Nat.le_of_ble_eq_true rfl) ?_
  intro p e s m below meth c A ls hx hb hml hr hts hown hlocks hA hP hK hD hS hZ hN hxt hl
  have hl : lv_has ls 5 [(0, .ref h0), (1, .int p0), (2, .int p1), (3, .ref o0)] := hl
  refine lv_aload_n hx hb dL_write_0 rfl (lv_at hl 3 rfl) ?_
  refine lv_iconst (v := (nI 0)) hx hb dL_write_1 (by decide) ?_
  refine lv_aload_n hx hb dL_write_2 rfl (lv_at hl 0 rfl) ?_
  refine lv_iload_n hx hb dL_write_3 rfl (lv_at hl 1 rfl) ?_
  refine lv_iload_n hx hb dL_write_4 rfl (lv_at hl 2 rfl) ?_
  refine kv_Vi (Xr := wO cL o0 fo) (n := 2) hM hx hb hml hown hts gL_write_X0_write rfl hrm ⟨rfl, by decide +kernel⟩ rfl ⟨Nat.succ_le_succ hrf.1, Nat.le_trans (Nat.add_le_add_left hrf.2 _) (Nat.le_of_ble_eq_true rfl)⟩ hK hP hD hS hA [0] [0, 1, 2, 3, 4, 5, 6] [7] rfl rfl rfl (by decide) (by decide) (q0 := 0) rfl rfl rfl (by decide) hl.1 rfl (Nat.le_of_ble_eq_true rfl) dL_write_5 ⟨Nat.zero_le _, Nat.zero_le _⟩ (fun H locs hP hD hS => ?_)
  have hP := hP.sub (ws' := wX0 cA h0 q0 q1 q2 q3 q4 q5 w2 ce2 nm2 tl2 tc2 tw2 T2 n2 z2 wtc2 wia2 off2 ++ wO cL o0 fo) [1, 2, 3, 4, 5, 6, 7, 0] rfl
  have hD := hD.sub (ws' := wX0 cA h0 q0 q1 q2 q3 q4 q5 w2 ce2 nm2 tl2 tc2 tw2 T2 n2 z2 wtc2 wia2 off2 ++ wO cL o0 fo) [1, 2, 3, 4, 5, 6, 7, 0] (by decide) rfl
  refine lv_i2l hx hb dL_write_8 rfl ?_
  refine va_last (D := (dC, dI)) hx hb hK hP hD hS 7 1 rfl rfl ko_in dL_write_9 (fun H locs hP hD hS => ?_)
  refine lv_goto (tgt := 21) hx hb dL_write_10 (by decide) ?_
  refine lv_iconst (v := (nI 0)) hx hb dL_write_21 (by decide) ?_
  exact kc_ret hx hb hr hlocks hP hK hD hS ⟨Nat.le_of_ble_eq_true rfl, Nat.le_of_ble_eq_true rfl⟩ dL_write_22 rfl rfl
set_option maxHeartbeats 4000000 in
set_option maxRecDepth 100000 in
theorem cL_write_xIAE (l : Launch) (dC : Nat → ClassId) (dI : Nat → Nat → Nat) (cA cL : ClassId) (h0 q0 q1 q2 q3 q4 q5 o0 : Nat) (w ce nm tl tc tw : Nat → Int32) (T n z : Nat) (wtc wia off : Int32) (fo : Nat → Int64) (p0 p1 : Int32) (rm : Room) (hM : kMx l yX0_write wsX0_write rm dC dI [(cA, .int)] (wX0 cA h0 q0 q1 q2 q3 q4 q5 w ce nm tl tc tw T n z wtc wia off) [.ref h0, .int p0, .int p1] kIAE) (hrm : rm.cells = 1 ∧ rm.slots = 6) (hrf : rm.frames ≤ 8 ∧ rm.locals ≤ 130) : kMc l yL_write wsL_write ({ frames := 9, cells := 1, slots := 6, locals := 160 }) dC dI [(cA, .int), (cL, .long)] (wX0 cA h0 q0 q1 q2 q3 q4 q5 w ce nm tl tc tw T n z wtc wia off ++ wO cL o0 fo) [.ref h0, .int p0, .int p1, .ref o0] (nI 1) (wX0 cA h0 q0 q1 q2 q3 q4 q5 w ce nm tl tc tw T n z wtc wia off ++ wO cL o0 fo) := by
  refine kc_of (cc := cL_write) (maxL := 5) (ret := some .int) (by decide) rfl (Nat.le_of_ble_eq_true rfl) ?_
  intro p e s m below meth c A ls hx hb hml hr hts hown hlocks hA hP hK hD hS hZ hN hxt hl
  have hl : lv_has ls 5 [(0, .ref h0), (1, .int p0), (2, .int p1), (3, .ref o0)] := hl
  refine lv_aload_n hx hb dL_write_0 rfl (lv_at hl 3 rfl) ?_
  refine lv_iconst (v := (nI 0)) hx hb dL_write_1 (by decide) ?_
  refine lv_aload_n hx hb dL_write_2 rfl (lv_at hl 0 rfl) ?_
  refine lv_iload_n hx hb dL_write_3 rfl (lv_at hl 1 rfl) ?_
  refine lv_iload_n hx hb dL_write_4 rfl (lv_at hl 2 rfl) ?_
  refine kx_call (Xr := wO cL o0 fo) (n := 2) hM hx hb hml hown hts gL_write_X0_write rfl hrm ⟨rfl, by decide +kernel⟩ rfl ⟨Nat.succ_le_succ hrf.1, Nat.le_trans (Nat.add_le_add_left hrf.2 _) (Nat.le_of_ble_eq_true rfl)⟩ hK hP hD hS hA hZ [0] [0, 1, 2, 3, 4, 5, 6] [7] rfl rfl rfl (by decide) (by decide) (q0 := 0) rfl rfl rfl (by decide) hl.1 rfl (Nat.le_of_ble_eq_true rfl) dL_write_5 ⟨Nat.le_of_ble_eq_true rfl, Nat.le_of_ble_eq_true rfl⟩ (fun ce9 q9 H locs hP hD hS hce hcv hcl => ?_)
  have hP := hP.sub (ws' := wX0 cA h0 q0 q1 q2 q3 q4 q5 w ce nm tl tc tw T n z wtc wia off ++ wO cL o0 fo) [1, 2, 3, 4, 5, 6, 7, 0] rfl
  have hD := hD.sub (ws' := wX0 cA h0 q0 q1 q2 q3 q4 q5 w ce nm tl tc tw T n z wtc wia off ++ wO cL o0 fo) [1, 2, 3, 4, 5, 6, 7, 0] (by decide) rfl
  refine vx_catch (own := RL) (name := kIAE) (E := kIAE) hown [] ⟨0, 10, 13, 19⟩ [⟨0, 10, 17, 13⟩] (by rw [hxt]; rfl) (fun z hz => by simp at hz) (by decide) (by decide) (hts (.classLink RL 19 kIAE) (by decide +kernel)) (va_Nw.use rfl (hZ.2.2.2.1 _ List.mem_cons_self)) hce hcv hcl ?_
  refine lv_astore (lv' := [(4, .ref q9), (0, .ref h0), (1, .int p0), (2, .int p1), (3, .ref o0)]) hx hb dL_write_13 hl (by decide) rfl (fun ls hl => ?_)
  refine lv_iconst (v := (nI 1)) hx hb dL_write_15 (by decide) ?_
  exact kc_ret hx hb hr hlocks hP hK hD hS ⟨Nat.le_of_ble_eq_true rfl, Nat.le_of_ble_eq_true rfl⟩ dL_write_16 rfl rfl
set_option maxHeartbeats 4000000 in
set_option maxRecDepth 100000 in
theorem cL_write_xISE (l : Launch) (dC : Nat → ClassId) (dI : Nat → Nat → Nat) (cA cL : ClassId) (h0 q0 q1 q2 q3 q4 q5 o0 : Nat) (w ce nm tl tc tw : Nat → Int32) (T n z : Nat) (wtc wia off : Int32) (fo : Nat → Int64) (p0 p1 : Int32) (rm : Room) (hM : kMx l yX0_write wsX0_write rm dC dI [(cA, .int)] (wX0 cA h0 q0 q1 q2 q3 q4 q5 w ce nm tl tc tw T n z wtc wia off) [.ref h0, .int p0, .int p1] kISE) (hrm : rm.cells = 1 ∧ rm.slots = 6) (hrf : rm.frames ≤ 8 ∧ rm.locals ≤ 130) : kMc l yL_write wsL_write ({ frames := 9, cells := 1, slots := 6, locals := 160 }) dC dI [(cA, .int), (cL, .long)] (wX0 cA h0 q0 q1 q2 q3 q4 q5 w ce nm tl tc tw T n z wtc wia off ++ wO cL o0 fo) [.ref h0, .int p0, .int p1, .ref o0] (nI 2) (wX0 cA h0 q0 q1 q2 q3 q4 q5 w ce nm tl tc tw T n z wtc wia off ++ wO cL o0 fo) := by
  refine kc_of (cc := cL_write) (maxL := 5) (ret := some .int) (by decide) rfl (Nat.le_of_ble_eq_true rfl) ?_
  intro p e s m below meth c A ls hx hb hml hr hts hown hlocks hA hP hK hD hS hZ hN hxt hl
  have hl : lv_has ls 5 [(0, .ref h0), (1, .int p0), (2, .int p1), (3, .ref o0)] := hl
  refine lv_aload_n hx hb dL_write_0 rfl (lv_at hl 3 rfl) ?_
  refine lv_iconst (v := (nI 0)) hx hb dL_write_1 (by decide) ?_
  refine lv_aload_n hx hb dL_write_2 rfl (lv_at hl 0 rfl) ?_
  refine lv_iload_n hx hb dL_write_3 rfl (lv_at hl 1 rfl) ?_
  refine lv_iload_n hx hb dL_write_4 rfl (lv_at hl 2 rfl) ?_
  refine kx_call (Xr := wO cL o0 fo) (n := 2) hM hx hb hml hown hts gL_write_X0_write rfl hrm ⟨rfl, by decide +kernel⟩ rfl ⟨Nat.succ_le_succ hrf.1, Nat.le_trans (Nat.add_le_add_left hrf.2 _) (Nat.le_of_ble_eq_true rfl)⟩ hK hP hD hS hA hZ [0] [0, 1, 2, 3, 4, 5, 6] [7] rfl rfl rfl (by decide) (by decide) (q0 := 0) rfl rfl rfl (by decide) hl.1 rfl (Nat.le_of_ble_eq_true rfl) dL_write_5 ⟨Nat.le_of_ble_eq_true rfl, Nat.le_of_ble_eq_true rfl⟩ (fun ce9 q9 H locs hP hD hS hce hcv hcl => ?_)
  have hP := hP.sub (ws' := wX0 cA h0 q0 q1 q2 q3 q4 q5 w ce nm tl tc tw T n z wtc wia off ++ wO cL o0 fo) [1, 2, 3, 4, 5, 6, 7, 0] rfl
  have hD := hD.sub (ws' := wX0 cA h0 q0 q1 q2 q3 q4 q5 w ce nm tl tc tw T n z wtc wia off ++ wO cL o0 fo) [1, 2, 3, 4, 5, 6, 7, 0] (by decide) rfl
  refine vx_catch (own := RL) (name := kISE) (E := kISE) hown [⟨0, 10, 13, 19⟩] ⟨0, 10, 17, 13⟩ [] (by rw [hxt]; rfl) (fun z hz => by rcases List.mem_singleton.mp hz with rfl; exact Or.inr ⟨by decide, kIAE, hts (.classLink RL 19 kIAE) (by decide +kernel), hN⟩) (by decide) (by decide) (hts (.classLink RL 13 kISE) (by decide +kernel)) (va_Nw.use rfl (hZ.2.2.1 _ List.mem_cons_self)) hce hcv hcl ?_
  refine lv_astore (lv' := [(4, .ref q9), (0, .ref h0), (1, .int p0), (2, .int p1), (3, .ref o0)]) hx hb dL_write_17 hl (by decide) rfl (fun ls hl => ?_)
  refine lv_iconst (v := (nI 2)) hx hb dL_write_19 (by decide) ?_
  exact kc_ret hx hb hr hlocks hP hK hD hS ⟨Nat.le_of_ble_eq_true rfl, Nat.le_of_ble_eq_true rfl⟩ dL_write_20 rfl rfl
set_option maxHeartbeats 4000000 in
set_option maxRecDepth 100000 in
theorem cL_read_ok (l : Launch) (dC : Nat → ClassId) (dI : Nat → Nat → Nat) (cA cL : ClassId) (h0 q0 q1 q2 q3 q4 q5 o0 : Nat) (w ce nm tl tc tw : Nat → Int32) (T n z : Nat) (wtc wia off : Int32) (fo : Nat → Int64) (w2 ce2 nm2 tl2 tc2 tw2 : Nat → Int32) (T2 n2 z2 : Nat) (wtc2 wia2 off2 : Int32) (p0 : Int32) (r : Int32) (rm : Room) (hM : kMi l yX0_read wsX0_read rm dC dI [(cA, .int)] (wX0 cA h0 q0 q1 q2 q3 q4 q5 w ce nm tl tc tw T n z wtc wia off) [.ref h0, .int p0] r (wX0 cA h0 q0 q1 q2 q3 q4 q5 w2 ce2 nm2 tl2 tc2 tw2 T2 n2 z2 wtc2 wia2 off2)) (hrm : rm.cells = 0 ∧ rm.slots = 0) (hrf : rm.frames ≤ 8 ∧ rm.locals ≤ 130) : kMc l yL_read wsL_read ({ frames := 9, cells := 1, slots := 6, locals := 160 }) dC dI [(cA, .int), (cL, .long)] (wX0 cA h0 q0 q1 q2 q3 q4 q5 w ce nm tl tc tw T n z wtc wia off ++ wO cL o0 fo) [.ref h0, .int p0, .ref o0] (nI 0) (wX0 cA h0 q0 q1 q2 q3 q4 q5 w2 ce2 nm2 tl2 tc2 tw2 T2 n2 z2 wtc2 wia2 off2 ++ wO cL o0 (vp_updL fo 0 r.toInt64)) := by
  refine kc_of (cc := cL_read) (maxL := 4) (ret := some .int) (by decide) rfl (Nat.le_of_ble_eq_true rfl) ?_
  intro p e s m below meth c A ls hx hb hml hr hts hown hlocks hA hP hK hD hS hZ hN hxt hl
  have hl : lv_has ls 4 [(0, .ref h0), (1, .int p0), (2, .ref o0)] := hl
  refine lv_aload_n hx hb dL_read_0 rfl (lv_at hl 2 rfl) ?_
  refine lv_iconst (v := (nI 0)) hx hb dL_read_1 (by decide) ?_
  refine lv_aload_n hx hb dL_read_2 rfl (lv_at hl 0 rfl) ?_
  refine lv_iload_n hx hb dL_read_3 rfl (lv_at hl 1 rfl) ?_
  refine kv_Vi (Xr := wO cL o0 fo) (n := 1) hM hx hb hml hown hts gL_read_X0_read rfl hrm ⟨rfl, by decide +kernel⟩ rfl ⟨Nat.succ_le_succ hrf.1, Nat.le_trans (Nat.add_le_add_left hrf.2 _) (Nat.le_of_ble_eq_true rfl)⟩ hK hP hD hS hA [0] [0, 1, 2, 3, 4, 5, 6] [7] rfl rfl rfl (by decide) (by decide) (q0 := 0) rfl rfl rfl (by decide) hl.1 rfl (Nat.le_of_ble_eq_true rfl) dL_read_4 ⟨Nat.zero_le _, Nat.zero_le _⟩ (fun H locs hP hD hS => ?_)
  have hP := hP.sub (ws' := wX0 cA h0 q0 q1 q2 q3 q4 q5 w2 ce2 nm2 tl2 tc2 tw2 T2 n2 z2 wtc2 wia2 off2 ++ wO cL o0 fo) [1, 2, 3, 4, 5, 6, 7, 0] rfl
  have hD := hD.sub (ws' := wX0 cA h0 q0 q1 q2 q3 q4 q5 w2 ce2 nm2 tl2 tc2 tw2 T2 n2 z2 wtc2 wia2 off2 ++ wO cL o0 fo) [1, 2, 3, 4, 5, 6, 7, 0] (by decide) rfl
  refine lv_i2l hx hb dL_read_7 rfl ?_
  refine va_last (D := (dC, dI)) hx hb hK hP hD hS 7 1 rfl rfl ko_in dL_read_8 (fun H locs hP hD hS => ?_)
  refine lv_goto (tgt := 18) hx hb dL_read_9 (by decide) ?_
  refine lv_iconst (v := (nI 0)) hx hb dL_read_18 (by decide) ?_
  exact kc_ret hx hb hr hlocks hP hK hD hS ⟨Nat.le_of_ble_eq_true rfl, Nat.le_of_ble_eq_true rfl⟩ dL_read_19 rfl rfl
set_option maxHeartbeats 4000000 in
set_option maxRecDepth 100000 in
theorem cL_read_xIAE (l : Launch) (dC : Nat → ClassId) (dI : Nat → Nat → Nat) (cA cL : ClassId) (h0 q0 q1 q2 q3 q4 q5 o0 : Nat) (w ce nm tl tc tw : Nat → Int32) (T n z : Nat) (wtc wia off : Int32) (fo : Nat → Int64) (p0 : Int32) (rm : Room) (hM : kMx l yX0_read wsX0_read rm dC dI [(cA, .int)] (wX0 cA h0 q0 q1 q2 q3 q4 q5 w ce nm tl tc tw T n z wtc wia off) [.ref h0, .int p0] kIAE) (hrm : rm.cells = 1 ∧ rm.slots = 6) (hrf : rm.frames ≤ 8 ∧ rm.locals ≤ 130) : kMc l yL_read wsL_read ({ frames := 9, cells := 1, slots := 6, locals := 160 }) dC dI [(cA, .int), (cL, .long)] (wX0 cA h0 q0 q1 q2 q3 q4 q5 w ce nm tl tc tw T n z wtc wia off ++ wO cL o0 fo) [.ref h0, .int p0, .ref o0] (nI 1) (wX0 cA h0 q0 q1 q2 q3 q4 q5 w ce nm tl tc tw T n z wtc wia off ++ wO cL o0 fo) := by
  refine kc_of (cc := cL_read) (maxL := 4) (ret := some .int) (by decide) rfl (Nat.le_of_ble_eq_true rfl) ?_
  intro p e s m below meth c A ls hx hb hml hr hts hown hlocks hA hP hK hD hS hZ hN hxt hl
  have hl : lv_has ls 4 [(0, .ref h0), (1, .int p0), (2, .ref o0)] := hl
  refine lv_aload_n hx hb dL_read_0 rfl (lv_at hl 2 rfl) ?_
  refine lv_iconst (v := (nI 0)) hx hb dL_read_1 (by decide) ?_
  refine lv_aload_n hx hb dL_read_2 rfl (lv_at hl 0 rfl) ?_
  refine lv_iload_n hx hb dL_read_3 rfl (lv_at hl 1 rfl) ?_
  refine kx_call (Xr := wO cL o0 fo) (n := 1) hM hx hb hml hown hts gL_read_X0_read rfl hrm ⟨rfl, by decide +kernel⟩ rfl ⟨Nat.succ_le_succ hrf.1, Nat.le_trans (Nat.add_le_add_left hrf.2 _) (Nat.le_of_ble_eq_true rfl)⟩ hK hP hD hS hA hZ [0] [0, 1, 2, 3, 4, 5, 6] [7] rfl rfl rfl (by decide) (by decide) (q0 := 0) rfl rfl rfl (by decide) hl.1 rfl (Nat.le_of_ble_eq_true rfl) dL_read_4 ⟨Nat.le_of_ble_eq_true rfl, Nat.le_of_ble_eq_true rfl⟩ (fun ce9 q9 H locs hP hD hS hce hcv hcl => ?_)
  have hP := hP.sub (ws' := wX0 cA h0 q0 q1 q2 q3 q4 q5 w ce nm tl tc tw T n z wtc wia off ++ wO cL o0 fo) [1, 2, 3, 4, 5, 6, 7, 0] rfl
  have hD := hD.sub (ws' := wX0 cA h0 q0 q1 q2 q3 q4 q5 w ce nm tl tc tw T n z wtc wia off ++ wO cL o0 fo) [1, 2, 3, 4, 5, 6, 7, 0] (by decide) rfl
  refine vx_catch (own := RL) (name := kIAE) (E := kIAE) hown [] ⟨0, 9, 12, 19⟩ [⟨0, 9, 15, 13⟩] (by rw [hxt]; rfl) (fun z hz => by simp at hz) (by decide) (by decide) (hts (.classLink RL 19 kIAE) (by decide +kernel)) (va_Nw.use rfl (hZ.2.2.2.1 _ List.mem_cons_self)) hce hcv hcl ?_
  refine lv_astore_n (lv' := [(3, .ref q9), (0, .ref h0), (1, .int p0), (2, .ref o0)]) hx hb dL_read_12 rfl hl (by decide) rfl (fun ls hl => ?_)
  refine lv_iconst (v := (nI 1)) hx hb dL_read_13 (by decide) ?_
  exact kc_ret hx hb hr hlocks hP hK hD hS ⟨Nat.le_of_ble_eq_true rfl, Nat.le_of_ble_eq_true rfl⟩ dL_read_14 rfl rfl
set_option maxHeartbeats 4000000 in
set_option maxRecDepth 100000 in
theorem cL_read_xISE (l : Launch) (dC : Nat → ClassId) (dI : Nat → Nat → Nat) (cA cL : ClassId) (h0 q0 q1 q2 q3 q4 q5 o0 : Nat) (w ce nm tl tc tw : Nat → Int32) (T n z : Nat) (wtc wia off : Int32) (fo : Nat → Int64) (p0 : Int32) (rm : Room) (hM : kMx l yX0_read wsX0_read rm dC dI [(cA, .int)] (wX0 cA h0 q0 q1 q2 q3 q4 q5 w ce nm tl tc tw T n z wtc wia off) [.ref h0, .int p0] kISE) (hrm : rm.cells = 1 ∧ rm.slots = 6) (hrf : rm.frames ≤ 8 ∧ rm.locals ≤ 130) : kMc l yL_read wsL_read ({ frames := 9, cells := 1, slots := 6, locals := 160 }) dC dI [(cA, .int), (cL, .long)] (wX0 cA h0 q0 q1 q2 q3 q4 q5 w ce nm tl tc tw T n z wtc wia off ++ wO cL o0 fo) [.ref h0, .int p0, .ref o0] (nI 2) (wX0 cA h0 q0 q1 q2 q3 q4 q5 w ce nm tl tc tw T n z wtc wia off ++ wO cL o0 fo) := by
  refine kc_of (cc := cL_read) (maxL := 4) (ret := some .int) (by decide) rfl (Nat.le_of_ble_eq_true rfl) ?_
  intro p e s m below meth c A ls hx hb hml hr hts hown hlocks hA hP hK hD hS hZ hN hxt hl
  have hl : lv_has ls 4 [(0, .ref h0), (1, .int p0), (2, .ref o0)] := hl
  refine lv_aload_n hx hb dL_read_0 rfl (lv_at hl 2 rfl) ?_
  refine lv_iconst (v := (nI 0)) hx hb dL_read_1 (by decide) ?_
  refine lv_aload_n hx hb dL_read_2 rfl (lv_at hl 0 rfl) ?_
  refine lv_iload_n hx hb dL_read_3 rfl (lv_at hl 1 rfl) ?_
  refine kx_call (Xr := wO cL o0 fo) (n := 1) hM hx hb hml hown hts gL_read_X0_read rfl hrm ⟨rfl, by decide +kernel⟩ rfl ⟨Nat.succ_le_succ hrf.1, Nat.le_trans (Nat.add_le_add_left hrf.2 _) (Nat.le_of_ble_eq_true rfl)⟩ hK hP hD hS hA hZ [0] [0, 1, 2, 3, 4, 5, 6] [7] rfl rfl rfl (by decide) (by decide) (q0 := 0) rfl rfl rfl (by decide) hl.1 rfl (Nat.le_of_ble_eq_true rfl) dL_read_4 ⟨Nat.le_of_ble_eq_true rfl, Nat.le_of_ble_eq_true rfl⟩ (fun ce9 q9 H locs hP hD hS hce hcv hcl => ?_)
  have hP := hP.sub (ws' := wX0 cA h0 q0 q1 q2 q3 q4 q5 w ce nm tl tc tw T n z wtc wia off ++ wO cL o0 fo) [1, 2, 3, 4, 5, 6, 7, 0] rfl
  have hD := hD.sub (ws' := wX0 cA h0 q0 q1 q2 q3 q4 q5 w ce nm tl tc tw T n z wtc wia off ++ wO cL o0 fo) [1, 2, 3, 4, 5, 6, 7, 0] (by decide) rfl
  refine vx_catch (own := RL) (name := kISE) (E := kISE) hown [⟨0, 9, 12, 19⟩] ⟨0, 9, 15, 13⟩ [] (by rw [hxt]; rfl) (fun z hz => by rcases List.mem_singleton.mp hz with rfl; exact Or.inr ⟨by decide, kIAE, hts (.classLink RL 19 kIAE) (by decide +kernel), hN⟩) (by decide) (by decide) (hts (.classLink RL 13 kISE) (by decide +kernel)) (va_Nw.use rfl (hZ.2.2.1 _ List.mem_cons_self)) hce hcv hcl ?_
  refine lv_astore_n (lv' := [(3, .ref q9), (0, .ref h0), (1, .int p0), (2, .ref o0)]) hx hb dL_read_15 rfl hl (by decide) rfl (fun ls hl => ?_)
  refine lv_iconst (v := (nI 2)) hx hb dL_read_16 (by decide) ?_
  exact kc_ret hx hb hr hlocks hP hK hD hS ⟨Nat.le_of_ble_eq_true rfl, Nat.le_of_ble_eq_true rfl⟩ dL_read_17 rfl rfl
set_option maxHeartbeats 4000000 in
set_option maxRecDepth 100000 in
theorem cL_commit_ok (l : Launch) (dC : Nat → ClassId) (dI : Nat → Nat → Nat) (cA cL : ClassId) (h0 q0 q1 q2 q3 q4 q5 o0 : Nat) (w ce nm tl tc tw : Nat → Int32) (T n z : Nat) (wtc wia off : Int32) (fo : Nat → Int64) (w2 ce2 nm2 tl2 tc2 tw2 : Nat → Int32) (T2 n2 z2 : Nat) (wtc2 wia2 off2 : Int32)  (r : Int32) (rm : Room) (hM : kMi l yX0_commit wsX0_commit rm dC dI [(cA, .int)] (wX0 cA h0 q0 q1 q2 q3 q4 q5 w ce nm tl tc tw T n z wtc wia off) [.ref h0] r (wX0 cA h0 q0 q1 q2 q3 q4 q5 w2 ce2 nm2 tl2 tc2 tw2 T2 n2 z2 wtc2 wia2 off2)) (hrm : rm.cells = 0 ∧ rm.slots = 0) (hrf : rm.frames ≤ 8 ∧ rm.locals ≤ 130) : kMc l yL_commit wsL_commit ({ frames := 9, cells := 1, slots := 6, locals := 160 }) dC dI [(cA, .int), (cL, .long)] (wX0 cA h0 q0 q1 q2 q3 q4 q5 w ce nm tl tc tw T n z wtc wia off ++ wO cL o0 fo) [.ref h0, .ref o0] (nI 0) (wX0 cA h0 q0 q1 q2 q3 q4 q5 w2 ce2 nm2 tl2 tc2 tw2 T2 n2 z2 wtc2 wia2 off2 ++ wO cL o0 (vp_updL fo 0 r.toInt64)) := by
  refine kc_of (cc := cL_commit) (maxL := 3) (ret := some .int) (by decide) rfl (Nat.le_of_ble_eq_true rfl) ?_
  intro p e s m below meth c A ls hx hb hml hr hts hown hlocks hA hP hK hD hS hZ hN hxt hl
  have hl : lv_has ls 3 [(0, .ref h0), (1, .ref o0)] := hl
  refine lv_aload_n hx hb dL_commit_0 rfl (lv_at hl 1 rfl) ?_
  refine lv_iconst (v := (nI 0)) hx hb dL_commit_1 (by decide) ?_
  refine lv_aload_n hx hb dL_commit_2 rfl (lv_at hl 0 rfl) ?_
  refine kv_Vi (Xr := wO cL o0 fo) (n := 0) hM hx hb hml hown hts gL_commit_X0_commit rfl hrm ⟨rfl, by decide +kernel⟩ rfl ⟨Nat.succ_le_succ hrf.1, Nat.le_trans (Nat.add_le_add_left hrf.2 _) (Nat.le_of_ble_eq_true rfl)⟩ hK hP hD hS hA [0] [0, 1, 2, 3, 4, 5, 6] [7] rfl rfl rfl (by decide) (by decide) (q0 := 0) rfl rfl rfl (by decide) hl.1 rfl (Nat.le_of_ble_eq_true rfl) dL_commit_3 ⟨Nat.zero_le _, Nat.zero_le _⟩ (fun H locs hP hD hS => ?_)
  have hP := hP.sub (ws' := wX0 cA h0 q0 q1 q2 q3 q4 q5 w2 ce2 nm2 tl2 tc2 tw2 T2 n2 z2 wtc2 wia2 off2 ++ wO cL o0 fo) [1, 2, 3, 4, 5, 6, 7, 0] rfl
  have hD := hD.sub (ws' := wX0 cA h0 q0 q1 q2 q3 q4 q5 w2 ce2 nm2 tl2 tc2 tw2 T2 n2 z2 wtc2 wia2 off2 ++ wO cL o0 fo) [1, 2, 3, 4, 5, 6, 7, 0] (by decide) rfl
  refine lv_i2l hx hb dL_commit_6 rfl ?_
  refine va_last (D := (dC, dI)) hx hb hK hP hD hS 7 1 rfl rfl ko_in dL_commit_7 (fun H locs hP hD hS => ?_)
  refine lv_goto (tgt := 14) hx hb dL_commit_8 (by decide) ?_
  refine lv_iconst (v := (nI 0)) hx hb dL_commit_14 (by decide) ?_
  exact kc_ret hx hb hr hlocks hP hK hD hS ⟨Nat.le_of_ble_eq_true rfl, Nat.le_of_ble_eq_true rfl⟩ dL_commit_15 rfl rfl
set_option maxHeartbeats 4000000 in
set_option maxRecDepth 100000 in
theorem cL_commit_xISE (l : Launch) (dC : Nat → ClassId) (dI : Nat → Nat → Nat) (cA cL : ClassId) (h0 q0 q1 q2 q3 q4 q5 o0 : Nat) (w ce nm tl tc tw : Nat → Int32) (T n z : Nat) (wtc wia off : Int32) (fo : Nat → Int64)  (rm : Room) (hM : kMx l yX0_commit wsX0_commit rm dC dI [(cA, .int)] (wX0 cA h0 q0 q1 q2 q3 q4 q5 w ce nm tl tc tw T n z wtc wia off) [.ref h0] kISE) (hrm : rm.cells = 1 ∧ rm.slots = 6) (hrf : rm.frames ≤ 8 ∧ rm.locals ≤ 130) : kMc l yL_commit wsL_commit ({ frames := 9, cells := 1, slots := 6, locals := 160 }) dC dI [(cA, .int), (cL, .long)] (wX0 cA h0 q0 q1 q2 q3 q4 q5 w ce nm tl tc tw T n z wtc wia off ++ wO cL o0 fo) [.ref h0, .ref o0] (nI 1) (wX0 cA h0 q0 q1 q2 q3 q4 q5 w ce nm tl tc tw T n z wtc wia off ++ wO cL o0 fo) := by
  refine kc_of (cc := cL_commit) (maxL := 3) (ret := some .int) (by decide) rfl (Nat.le_of_ble_eq_true rfl) ?_
  intro p e s m below meth c A ls hx hb hml hr hts hown hlocks hA hP hK hD hS hZ hN hxt hl
  have hl : lv_has ls 3 [(0, .ref h0), (1, .ref o0)] := hl
  refine lv_aload_n hx hb dL_commit_0 rfl (lv_at hl 1 rfl) ?_
  refine lv_iconst (v := (nI 0)) hx hb dL_commit_1 (by decide) ?_
  refine lv_aload_n hx hb dL_commit_2 rfl (lv_at hl 0 rfl) ?_
  refine kx_call (Xr := wO cL o0 fo) (n := 0) hM hx hb hml hown hts gL_commit_X0_commit rfl hrm ⟨rfl, by decide +kernel⟩ rfl ⟨Nat.succ_le_succ hrf.1, Nat.le_trans (Nat.add_le_add_left hrf.2 _) (Nat.le_of_ble_eq_true rfl)⟩ hK hP hD hS hA hZ [0] [0, 1, 2, 3, 4, 5, 6] [7] rfl rfl rfl (by decide) (by decide) (q0 := 0) rfl rfl rfl (by decide) hl.1 rfl (Nat.le_of_ble_eq_true rfl) dL_commit_3 ⟨Nat.le_of_ble_eq_true rfl, Nat.le_of_ble_eq_true rfl⟩ (fun ce9 q9 H locs hP hD hS hce hcv hcl => ?_)
  have hP := hP.sub (ws' := wX0 cA h0 q0 q1 q2 q3 q4 q5 w ce nm tl tc tw T n z wtc wia off ++ wO cL o0 fo) [1, 2, 3, 4, 5, 6, 7, 0] rfl
  have hD := hD.sub (ws' := wX0 cA h0 q0 q1 q2 q3 q4 q5 w ce nm tl tc tw T n z wtc wia off ++ wO cL o0 fo) [1, 2, 3, 4, 5, 6, 7, 0] (by decide) rfl
  refine vx_catch (own := RL) (name := kISE) (E := kISE) hown [] ⟨0, 8, 11, 13⟩ [] (by rw [hxt]; rfl) (fun z hz => by simp at hz) (by decide) (by decide) (hts (.classLink RL 13 kISE) (by decide +kernel)) (va_Nw.use rfl (hZ.2.2.1 _ List.mem_cons_self)) hce hcv hcl ?_
  refine lv_astore_n (lv' := [(2, .ref q9), (0, .ref h0), (1, .ref o0)]) hx hb dL_commit_11 rfl hl (by decide) rfl (fun ls hl => ?_)
  refine lv_iconst (v := (nI 1)) hx hb dL_commit_12 (by decide) ?_
  exact kc_ret hx hb hr hlocks hP hK hD hS ⟨Nat.le_of_ble_eq_true rfl, Nat.le_of_ble_eq_true rfl⟩ dL_commit_13 rfl rfl
set_option maxHeartbeats 4000000 in
set_option maxRecDepth 100000 in
theorem cL_abort_ok (l : Launch) (dC : Nat → ClassId) (dI : Nat → Nat → Nat) (cA cL : ClassId) (h0 q0 q1 q2 q3 q4 q5 o0 : Nat) (w ce nm tl tc tw : Nat → Int32) (T n z : Nat) (wtc wia off : Int32) (fo : Nat → Int64) (w2 ce2 nm2 tl2 tc2 tw2 : Nat → Int32) (T2 n2 z2 : Nat) (wtc2 wia2 off2 : Int32)  (r : Int32) (rm : Room) (hM : kMi l yX0_abort wsX0_abort rm dC dI [(cA, .int)] (wX0 cA h0 q0 q1 q2 q3 q4 q5 w ce nm tl tc tw T n z wtc wia off) [.ref h0] r (wX0 cA h0 q0 q1 q2 q3 q4 q5 w2 ce2 nm2 tl2 tc2 tw2 T2 n2 z2 wtc2 wia2 off2)) (hrm : rm.cells = 0 ∧ rm.slots = 0) (hrf : rm.frames ≤ 8 ∧ rm.locals ≤ 130) : kMc l yL_abort wsL_abort ({ frames := 9, cells := 1, slots := 6, locals := 160 }) dC dI [(cA, .int), (cL, .long)] (wX0 cA h0 q0 q1 q2 q3 q4 q5 w ce nm tl tc tw T n z wtc wia off ++ wO cL o0 fo) [.ref h0, .ref o0] (nI 0) (wX0 cA h0 q0 q1 q2 q3 q4 q5 w2 ce2 nm2 tl2 tc2 tw2 T2 n2 z2 wtc2 wia2 off2 ++ wO cL o0 (vp_updL fo 0 r.toInt64)) := by
  refine kc_of (cc := cL_abort) (maxL := 3) (ret := some .int) (by decide) rfl (Nat.le_of_ble_eq_true rfl) ?_
  intro p e s m below meth c A ls hx hb hml hr hts hown hlocks hA hP hK hD hS hZ hN hxt hl
  have hl : lv_has ls 3 [(0, .ref h0), (1, .ref o0)] := hl
  refine lv_aload_n hx hb dL_abort_0 rfl (lv_at hl 1 rfl) ?_
  refine lv_iconst (v := (nI 0)) hx hb dL_abort_1 (by decide) ?_
  refine lv_aload_n hx hb dL_abort_2 rfl (lv_at hl 0 rfl) ?_
  refine kv_Vi (Xr := wO cL o0 fo) (n := 0) hM hx hb hml hown hts gL_abort_X0_abort rfl hrm ⟨rfl, by decide +kernel⟩ rfl ⟨Nat.succ_le_succ hrf.1, Nat.le_trans (Nat.add_le_add_left hrf.2 _) (Nat.le_of_ble_eq_true rfl)⟩ hK hP hD hS hA [0] [0, 1, 2, 3, 4, 5, 6] [7] rfl rfl rfl (by decide) (by decide) (q0 := 0) rfl rfl rfl (by decide) hl.1 rfl (Nat.le_of_ble_eq_true rfl) dL_abort_3 ⟨Nat.zero_le _, Nat.zero_le _⟩ (fun H locs hP hD hS => ?_)
  have hP := hP.sub (ws' := wX0 cA h0 q0 q1 q2 q3 q4 q5 w2 ce2 nm2 tl2 tc2 tw2 T2 n2 z2 wtc2 wia2 off2 ++ wO cL o0 fo) [1, 2, 3, 4, 5, 6, 7, 0] rfl
  have hD := hD.sub (ws' := wX0 cA h0 q0 q1 q2 q3 q4 q5 w2 ce2 nm2 tl2 tc2 tw2 T2 n2 z2 wtc2 wia2 off2 ++ wO cL o0 fo) [1, 2, 3, 4, 5, 6, 7, 0] (by decide) rfl
  refine lv_i2l hx hb dL_abort_6 rfl ?_
  refine va_last (D := (dC, dI)) hx hb hK hP hD hS 7 1 rfl rfl ko_in dL_abort_7 (fun H locs hP hD hS => ?_)
  refine lv_goto (tgt := 14) hx hb dL_abort_8 (by decide) ?_
  refine lv_iconst (v := (nI 0)) hx hb dL_abort_14 (by decide) ?_
  exact kc_ret hx hb hr hlocks hP hK hD hS ⟨Nat.le_of_ble_eq_true rfl, Nat.le_of_ble_eq_true rfl⟩ dL_abort_15 rfl rfl
set_option maxHeartbeats 4000000 in
set_option maxRecDepth 100000 in
theorem cL_abort_xISE (l : Launch) (dC : Nat → ClassId) (dI : Nat → Nat → Nat) (cA cL : ClassId) (h0 q0 q1 q2 q3 q4 q5 o0 : Nat) (w ce nm tl tc tw : Nat → Int32) (T n z : Nat) (wtc wia off : Int32) (fo : Nat → Int64)  (rm : Room) (hM : kMx l yX0_abort wsX0_abort rm dC dI [(cA, .int)] (wX0 cA h0 q0 q1 q2 q3 q4 q5 w ce nm tl tc tw T n z wtc wia off) [.ref h0] kISE) (hrm : rm.cells = 1 ∧ rm.slots = 6) (hrf : rm.frames ≤ 8 ∧ rm.locals ≤ 130) : kMc l yL_abort wsL_abort ({ frames := 9, cells := 1, slots := 6, locals := 160 }) dC dI [(cA, .int), (cL, .long)] (wX0 cA h0 q0 q1 q2 q3 q4 q5 w ce nm tl tc tw T n z wtc wia off ++ wO cL o0 fo) [.ref h0, .ref o0] (nI 1) (wX0 cA h0 q0 q1 q2 q3 q4 q5 w ce nm tl tc tw T n z wtc wia off ++ wO cL o0 fo) := by
  refine kc_of (cc := cL_abort) (maxL := 3) (ret := some .int) (by decide) rfl (Nat.le_of_ble_eq_true rfl) ?_
  intro p e s m below meth c A ls hx hb hml hr hts hown hlocks hA hP hK hD hS hZ hN hxt hl
  have hl : lv_has ls 3 [(0, .ref h0), (1, .ref o0)] := hl
  refine lv_aload_n hx hb dL_abort_0 rfl (lv_at hl 1 rfl) ?_
  refine lv_iconst (v := (nI 0)) hx hb dL_abort_1 (by decide) ?_
  refine lv_aload_n hx hb dL_abort_2 rfl (lv_at hl 0 rfl) ?_
  refine kx_call (Xr := wO cL o0 fo) (n := 0) hM hx hb hml hown hts gL_abort_X0_abort rfl hrm ⟨rfl, by decide +kernel⟩ rfl ⟨Nat.succ_le_succ hrf.1, Nat.le_trans (Nat.add_le_add_left hrf.2 _) (Nat.le_of_ble_eq_true rfl)⟩ hK hP hD hS hA hZ [0] [0, 1, 2, 3, 4, 5, 6] [7] rfl rfl rfl (by decide) (by decide) (q0 := 0) rfl rfl rfl (by decide) hl.1 rfl (Nat.le_of_ble_eq_true rfl) dL_abort_3 ⟨Nat.le_of_ble_eq_true rfl, Nat.le_of_ble_eq_true rfl⟩ (fun ce9 q9 H locs hP hD hS hce hcv hcl => ?_)
  have hP := hP.sub (ws' := wX0 cA h0 q0 q1 q2 q3 q4 q5 w ce nm tl tc tw T n z wtc wia off ++ wO cL o0 fo) [1, 2, 3, 4, 5, 6, 7, 0] rfl
  have hD := hD.sub (ws' := wX0 cA h0 q0 q1 q2 q3 q4 q5 w ce nm tl tc tw T n z wtc wia off ++ wO cL o0 fo) [1, 2, 3, 4, 5, 6, 7, 0] (by decide) rfl
  refine vx_catch (own := RL) (name := kISE) (E := kISE) hown [] ⟨0, 8, 11, 13⟩ [] (by rw [hxt]; rfl) (fun z hz => by simp at hz) (by decide) (by decide) (hts (.classLink RL 13 kISE) (by decide +kernel)) (va_Nw.use rfl (hZ.2.2.1 _ List.mem_cons_self)) hce hcv hcl ?_
  refine lv_astore_n (lv' := [(2, .ref q9), (0, .ref h0), (1, .ref o0)]) hx hb dL_abort_11 rfl hl (by decide) rfl (fun ls hl => ?_)
  refine lv_iconst (v := (nI 1)) hx hb dL_abort_12 (by decide) ?_
  exact kc_ret hx hb hr hlocks hP hK hD hS ⟨Nat.le_of_ble_eq_true rfl, Nat.le_of_ble_eq_true rfl⟩ dL_abort_13 rfl rfl
set_option maxHeartbeats 4000000 in
set_option maxRecDepth 100000 in
theorem cL_point_ok (l : Launch) (dC : Nat → ClassId) (dI : Nat → Nat → Nat) (cA cL : ClassId) (h0 q0 q1 q2 q3 q4 q5 o0 : Nat) (w ce nm tl tc tw : Nat → Int32) (T n z : Nat) (wtc wia off : Int32) (fo : Nat → Int64) (w2 ce2 nm2 tl2 tc2 tw2 : Nat → Int32) (T2 n2 z2 : Nat) (wtc2 wia2 off2 : Int32) (p0 : Int32) (r : Int32) (rm : Room) (hM : kMi l yX0_point wsX0_point rm dC dI [(cA, .int)] (wX0 cA h0 q0 q1 q2 q3 q4 q5 w ce nm tl tc tw T n z wtc wia off) [.ref h0, .int p0] r (wX0 cA h0 q0 q1 q2 q3 q4 q5 w2 ce2 nm2 tl2 tc2 tw2 T2 n2 z2 wtc2 wia2 off2)) (hrm : rm.cells = 0 ∧ rm.slots = 0) (hrf : rm.frames ≤ 8 ∧ rm.locals ≤ 130) : kMc l yL_point wsL_point ({ frames := 9, cells := 1, slots := 6, locals := 160 }) dC dI [(cA, .int), (cL, .long)] (wX0 cA h0 q0 q1 q2 q3 q4 q5 w ce nm tl tc tw T n z wtc wia off ++ wO cL o0 fo) [.ref h0, .int p0, .ref o0] (nI 0) (wX0 cA h0 q0 q1 q2 q3 q4 q5 w2 ce2 nm2 tl2 tc2 tw2 T2 n2 z2 wtc2 wia2 off2 ++ wO cL o0 (vp_updL fo 0 r.toInt64)) := by
  refine kc_of (cc := cL_point) (maxL := 4) (ret := some .int) (by decide) rfl (Nat.le_of_ble_eq_true rfl) ?_
  intro p e s m below meth c A ls hx hb hml hr hts hown hlocks hA hP hK hD hS hZ hN hxt hl
  have hl : lv_has ls 4 [(0, .ref h0), (1, .int p0), (2, .ref o0)] := hl
  refine lv_aload_n hx hb dL_point_0 rfl (lv_at hl 2 rfl) ?_
  refine lv_iconst (v := (nI 0)) hx hb dL_point_1 (by decide) ?_
  refine lv_aload_n hx hb dL_point_2 rfl (lv_at hl 0 rfl) ?_
  refine lv_iload_n hx hb dL_point_3 rfl (lv_at hl 1 rfl) ?_
  refine kv_Vi (Xr := wO cL o0 fo) (n := 1) hM hx hb hml hown hts gL_point_X0_point rfl hrm ⟨rfl, by decide +kernel⟩ rfl ⟨Nat.succ_le_succ hrf.1, Nat.le_trans (Nat.add_le_add_left hrf.2 _) (Nat.le_of_ble_eq_true rfl)⟩ hK hP hD hS hA [0] [0, 1, 2, 3, 4, 5, 6] [7] rfl rfl rfl (by decide) (by decide) (q0 := 0) rfl rfl rfl (by decide) hl.1 rfl (Nat.le_of_ble_eq_true rfl) dL_point_4 ⟨Nat.zero_le _, Nat.zero_le _⟩ (fun H locs hP hD hS => ?_)
  have hP := hP.sub (ws' := wX0 cA h0 q0 q1 q2 q3 q4 q5 w2 ce2 nm2 tl2 tc2 tw2 T2 n2 z2 wtc2 wia2 off2 ++ wO cL o0 fo) [1, 2, 3, 4, 5, 6, 7, 0] rfl
  have hD := hD.sub (ws' := wX0 cA h0 q0 q1 q2 q3 q4 q5 w2 ce2 nm2 tl2 tc2 tw2 T2 n2 z2 wtc2 wia2 off2 ++ wO cL o0 fo) [1, 2, 3, 4, 5, 6, 7, 0] (by decide) rfl
  refine lv_i2l hx hb dL_point_7 rfl ?_
  refine va_last (D := (dC, dI)) hx hb hK hP hD hS 7 1 rfl rfl ko_in dL_point_8 (fun H locs hP hD hS => ?_)
  refine lv_goto (tgt := 18) hx hb dL_point_9 (by decide) ?_
  refine lv_iconst (v := (nI 0)) hx hb dL_point_18 (by decide) ?_
  exact kc_ret hx hb hr hlocks hP hK hD hS ⟨Nat.le_of_ble_eq_true rfl, Nat.le_of_ble_eq_true rfl⟩ dL_point_19 rfl rfl
set_option maxHeartbeats 4000000 in
set_option maxRecDepth 100000 in
theorem cL_point_xIAE (l : Launch) (dC : Nat → ClassId) (dI : Nat → Nat → Nat) (cA cL : ClassId) (h0 q0 q1 q2 q3 q4 q5 o0 : Nat) (w ce nm tl tc tw : Nat → Int32) (T n z : Nat) (wtc wia off : Int32) (fo : Nat → Int64) (p0 : Int32) (rm : Room) (hM : kMx l yX0_point wsX0_point rm dC dI [(cA, .int)] (wX0 cA h0 q0 q1 q2 q3 q4 q5 w ce nm tl tc tw T n z wtc wia off) [.ref h0, .int p0] kIAE) (hrm : rm.cells = 1 ∧ rm.slots = 6) (hrf : rm.frames ≤ 8 ∧ rm.locals ≤ 130) : kMc l yL_point wsL_point ({ frames := 9, cells := 1, slots := 6, locals := 160 }) dC dI [(cA, .int), (cL, .long)] (wX0 cA h0 q0 q1 q2 q3 q4 q5 w ce nm tl tc tw T n z wtc wia off ++ wO cL o0 fo) [.ref h0, .int p0, .ref o0] (nI 1) (wX0 cA h0 q0 q1 q2 q3 q4 q5 w ce nm tl tc tw T n z wtc wia off ++ wO cL o0 fo) := by
  refine kc_of (cc := cL_point) (maxL := 4) (ret := some .int) (by decide) rfl (Nat.le_of_ble_eq_true rfl) ?_
  intro p e s m below meth c A ls hx hb hml hr hts hown hlocks hA hP hK hD hS hZ hN hxt hl
  have hl : lv_has ls 4 [(0, .ref h0), (1, .int p0), (2, .ref o0)] := hl
  refine lv_aload_n hx hb dL_point_0 rfl (lv_at hl 2 rfl) ?_
  refine lv_iconst (v := (nI 0)) hx hb dL_point_1 (by decide) ?_
  refine lv_aload_n hx hb dL_point_2 rfl (lv_at hl 0 rfl) ?_
  refine lv_iload_n hx hb dL_point_3 rfl (lv_at hl 1 rfl) ?_
  refine kx_call (Xr := wO cL o0 fo) (n := 1) hM hx hb hml hown hts gL_point_X0_point rfl hrm ⟨rfl, by decide +kernel⟩ rfl ⟨Nat.succ_le_succ hrf.1, Nat.le_trans (Nat.add_le_add_left hrf.2 _) (Nat.le_of_ble_eq_true rfl)⟩ hK hP hD hS hA hZ [0] [0, 1, 2, 3, 4, 5, 6] [7] rfl rfl rfl (by decide) (by decide) (q0 := 0) rfl rfl rfl (by decide) hl.1 rfl (Nat.le_of_ble_eq_true rfl) dL_point_4 ⟨Nat.le_of_ble_eq_true rfl, Nat.le_of_ble_eq_true rfl⟩ (fun ce9 q9 H locs hP hD hS hce hcv hcl => ?_)
  have hP := hP.sub (ws' := wX0 cA h0 q0 q1 q2 q3 q4 q5 w ce nm tl tc tw T n z wtc wia off ++ wO cL o0 fo) [1, 2, 3, 4, 5, 6, 7, 0] rfl
  have hD := hD.sub (ws' := wX0 cA h0 q0 q1 q2 q3 q4 q5 w ce nm tl tc tw T n z wtc wia off ++ wO cL o0 fo) [1, 2, 3, 4, 5, 6, 7, 0] (by decide) rfl
  refine vx_catch (own := RL) (name := kIAE) (E := kIAE) hown [] ⟨0, 9, 12, 19⟩ [⟨0, 9, 15, 13⟩] (by rw [hxt]; rfl) (fun z hz => by simp at hz) (by decide) (by decide) (hts (.classLink RL 19 kIAE) (by decide +kernel)) (va_Nw.use rfl (hZ.2.2.2.1 _ List.mem_cons_self)) hce hcv hcl ?_
  refine lv_astore_n (lv' := [(3, .ref q9), (0, .ref h0), (1, .int p0), (2, .ref o0)]) hx hb dL_point_12 rfl hl (by decide) rfl (fun ls hl => ?_)
  refine lv_iconst (v := (nI 1)) hx hb dL_point_13 (by decide) ?_
  exact kc_ret hx hb hr hlocks hP hK hD hS ⟨Nat.le_of_ble_eq_true rfl, Nat.le_of_ble_eq_true rfl⟩ dL_point_14 rfl rfl
set_option maxHeartbeats 4000000 in
set_option maxRecDepth 100000 in
theorem cL_point_xISE (l : Launch) (dC : Nat → ClassId) (dI : Nat → Nat → Nat) (cA cL : ClassId) (h0 q0 q1 q2 q3 q4 q5 o0 : Nat) (w ce nm tl tc tw : Nat → Int32) (T n z : Nat) (wtc wia off : Int32) (fo : Nat → Int64) (p0 : Int32) (rm : Room) (hM : kMx l yX0_point wsX0_point rm dC dI [(cA, .int)] (wX0 cA h0 q0 q1 q2 q3 q4 q5 w ce nm tl tc tw T n z wtc wia off) [.ref h0, .int p0] kISE) (hrm : rm.cells = 1 ∧ rm.slots = 6) (hrf : rm.frames ≤ 8 ∧ rm.locals ≤ 130) : kMc l yL_point wsL_point ({ frames := 9, cells := 1, slots := 6, locals := 160 }) dC dI [(cA, .int), (cL, .long)] (wX0 cA h0 q0 q1 q2 q3 q4 q5 w ce nm tl tc tw T n z wtc wia off ++ wO cL o0 fo) [.ref h0, .int p0, .ref o0] (nI 2) (wX0 cA h0 q0 q1 q2 q3 q4 q5 w ce nm tl tc tw T n z wtc wia off ++ wO cL o0 fo) := by
  refine kc_of (cc := cL_point) (maxL := 4) (ret := some .int) (by decide) rfl (Nat.le_of_ble_eq_true rfl) ?_
  intro p e s m below meth c A ls hx hb hml hr hts hown hlocks hA hP hK hD hS hZ hN hxt hl
  have hl : lv_has ls 4 [(0, .ref h0), (1, .int p0), (2, .ref o0)] := hl
  refine lv_aload_n hx hb dL_point_0 rfl (lv_at hl 2 rfl) ?_
  refine lv_iconst (v := (nI 0)) hx hb dL_point_1 (by decide) ?_
  refine lv_aload_n hx hb dL_point_2 rfl (lv_at hl 0 rfl) ?_
  refine lv_iload_n hx hb dL_point_3 rfl (lv_at hl 1 rfl) ?_
  refine kx_call (Xr := wO cL o0 fo) (n := 1) hM hx hb hml hown hts gL_point_X0_point rfl hrm ⟨rfl, by decide +kernel⟩ rfl ⟨Nat.succ_le_succ hrf.1, Nat.le_trans (Nat.add_le_add_left hrf.2 _) (Nat.le_of_ble_eq_true rfl)⟩ hK hP hD hS hA hZ [0] [0, 1, 2, 3, 4, 5, 6] [7] rfl rfl rfl (by decide) (by decide) (q0 := 0) rfl rfl rfl (by decide) hl.1 rfl (Nat.le_of_ble_eq_true rfl) dL_point_4 ⟨Nat.le_of_ble_eq_true rfl, Nat.le_of_ble_eq_true rfl⟩ (fun ce9 q9 H locs hP hD hS hce hcv hcl => ?_)
  have hP := hP.sub (ws' := wX0 cA h0 q0 q1 q2 q3 q4 q5 w ce nm tl tc tw T n z wtc wia off ++ wO cL o0 fo) [1, 2, 3, 4, 5, 6, 7, 0] rfl
  have hD := hD.sub (ws' := wX0 cA h0 q0 q1 q2 q3 q4 q5 w ce nm tl tc tw T n z wtc wia off ++ wO cL o0 fo) [1, 2, 3, 4, 5, 6, 7, 0] (by decide) rfl
  refine vx_catch (own := RL) (name := kISE) (E := kISE) hown [⟨0, 9, 12, 19⟩] ⟨0, 9, 15, 13⟩ [] (by rw [hxt]; rfl) (fun z hz => by rcases List.mem_singleton.mp hz with rfl; exact Or.inr ⟨by decide, kIAE, hts (.classLink RL 19 kIAE) (by decide +kernel), hN⟩) (by decide) (by decide) (hts (.classLink RL 13 kISE) (by decide +kernel)) (va_Nw.use rfl (hZ.2.2.1 _ List.mem_cons_self)) hce hcv hcl ?_
  refine lv_astore_n (lv' := [(3, .ref q9), (0, .ref h0), (1, .int p0), (2, .ref o0)]) hx hb dL_point_15 rfl hl (by decide) rfl (fun ls hl => ?_)
  refine lv_iconst (v := (nI 2)) hx hb dL_point_16 (by decide) ?_
  exact kc_ret hx hb hr hlocks hP hK hD hS ⟨Nat.le_of_ble_eq_true rfl, Nat.le_of_ble_eq_true rfl⟩ dL_point_17 rfl rfl
set_option maxHeartbeats 4000000 in
set_option maxRecDepth 100000 in
theorem cL_back_ok (l : Launch) (dC : Nat → ClassId) (dI : Nat → Nat → Nat) (cA cL : ClassId) (h0 q0 q1 q2 q3 q4 q5 o0 : Nat) (w ce nm tl tc tw : Nat → Int32) (T n z : Nat) (wtc wia off : Int32) (fo : Nat → Int64) (w2 ce2 nm2 tl2 tc2 tw2 : Nat → Int32) (T2 n2 z2 : Nat) (wtc2 wia2 off2 : Int32) (p0 : Int32) (r : Int32) (rm : Room) (hM : kMi l yX0_back wsX0_back rm dC dI [(cA, .int)] (wX0 cA h0 q0 q1 q2 q3 q4 q5 w ce nm tl tc tw T n z wtc wia off) [.ref h0, .int p0] r (wX0 cA h0 q0 q1 q2 q3 q4 q5 w2 ce2 nm2 tl2 tc2 tw2 T2 n2 z2 wtc2 wia2 off2)) (hrm : rm.cells = 0 ∧ rm.slots = 0) (hrf : rm.frames ≤ 8 ∧ rm.locals ≤ 130) : kMc l yL_back wsL_back ({ frames := 9, cells := 1, slots := 6, locals := 160 }) dC dI [(cA, .int), (cL, .long)] (wX0 cA h0 q0 q1 q2 q3 q4 q5 w ce nm tl tc tw T n z wtc wia off ++ wO cL o0 fo) [.ref h0, .int p0, .ref o0] (nI 0) (wX0 cA h0 q0 q1 q2 q3 q4 q5 w2 ce2 nm2 tl2 tc2 tw2 T2 n2 z2 wtc2 wia2 off2 ++ wO cL o0 (vp_updL fo 0 r.toInt64)) := by
  refine kc_of (cc := cL_back) (maxL := 4) (ret := some .int) (by decide) rfl (Nat.le_of_ble_eq_true rfl) ?_
  intro p e s m below meth c A ls hx hb hml hr hts hown hlocks hA hP hK hD hS hZ hN hxt hl
  have hl : lv_has ls 4 [(0, .ref h0), (1, .int p0), (2, .ref o0)] := hl
  refine lv_aload_n hx hb dL_back_0 rfl (lv_at hl 2 rfl) ?_
  refine lv_iconst (v := (nI 0)) hx hb dL_back_1 (by decide) ?_
  refine lv_aload_n hx hb dL_back_2 rfl (lv_at hl 0 rfl) ?_
  refine lv_iload_n hx hb dL_back_3 rfl (lv_at hl 1 rfl) ?_
  refine kv_Vi (Xr := wO cL o0 fo) (n := 1) hM hx hb hml hown hts gL_back_X0_back rfl hrm ⟨rfl, by decide +kernel⟩ rfl ⟨Nat.succ_le_succ hrf.1, Nat.le_trans (Nat.add_le_add_left hrf.2 _) (Nat.le_of_ble_eq_true rfl)⟩ hK hP hD hS hA [0] [0, 1, 2, 3, 4, 5, 6] [7] rfl rfl rfl (by decide) (by decide) (q0 := 0) rfl rfl rfl (by decide) hl.1 rfl (Nat.le_of_ble_eq_true rfl) dL_back_4 ⟨Nat.zero_le _, Nat.zero_le _⟩ (fun H locs hP hD hS => ?_)
  have hP := hP.sub (ws' := wX0 cA h0 q0 q1 q2 q3 q4 q5 w2 ce2 nm2 tl2 tc2 tw2 T2 n2 z2 wtc2 wia2 off2 ++ wO cL o0 fo) [1, 2, 3, 4, 5, 6, 7, 0] rfl
  have hD := hD.sub (ws' := wX0 cA h0 q0 q1 q2 q3 q4 q5 w2 ce2 nm2 tl2 tc2 tw2 T2 n2 z2 wtc2 wia2 off2 ++ wO cL o0 fo) [1, 2, 3, 4, 5, 6, 7, 0] (by decide) rfl
  refine lv_i2l hx hb dL_back_7 rfl ?_
  refine va_last (D := (dC, dI)) hx hb hK hP hD hS 7 1 rfl rfl ko_in dL_back_8 (fun H locs hP hD hS => ?_)
  refine lv_goto (tgt := 18) hx hb dL_back_9 (by decide) ?_
  refine lv_iconst (v := (nI 0)) hx hb dL_back_18 (by decide) ?_
  exact kc_ret hx hb hr hlocks hP hK hD hS ⟨Nat.le_of_ble_eq_true rfl, Nat.le_of_ble_eq_true rfl⟩ dL_back_19 rfl rfl
set_option maxHeartbeats 4000000 in
set_option maxRecDepth 100000 in
theorem cL_back_xIAE (l : Launch) (dC : Nat → ClassId) (dI : Nat → Nat → Nat) (cA cL : ClassId) (h0 q0 q1 q2 q3 q4 q5 o0 : Nat) (w ce nm tl tc tw : Nat → Int32) (T n z : Nat) (wtc wia off : Int32) (fo : Nat → Int64) (p0 : Int32) (rm : Room) (hM : kMx l yX0_back wsX0_back rm dC dI [(cA, .int)] (wX0 cA h0 q0 q1 q2 q3 q4 q5 w ce nm tl tc tw T n z wtc wia off) [.ref h0, .int p0] kIAE) (hrm : rm.cells = 1 ∧ rm.slots = 6) (hrf : rm.frames ≤ 8 ∧ rm.locals ≤ 130) : kMc l yL_back wsL_back ({ frames := 9, cells := 1, slots := 6, locals := 160 }) dC dI [(cA, .int), (cL, .long)] (wX0 cA h0 q0 q1 q2 q3 q4 q5 w ce nm tl tc tw T n z wtc wia off ++ wO cL o0 fo) [.ref h0, .int p0, .ref o0] (nI 1) (wX0 cA h0 q0 q1 q2 q3 q4 q5 w ce nm tl tc tw T n z wtc wia off ++ wO cL o0 fo) := by
  refine kc_of (cc := cL_back) (maxL := 4) (ret := some .int) (by decide) rfl (Nat.le_of_ble_eq_true rfl) ?_
  intro p e s m below meth c A ls hx hb hml hr hts hown hlocks hA hP hK hD hS hZ hN hxt hl
  have hl : lv_has ls 4 [(0, .ref h0), (1, .int p0), (2, .ref o0)] := hl
  refine lv_aload_n hx hb dL_back_0 rfl (lv_at hl 2 rfl) ?_
  refine lv_iconst (v := (nI 0)) hx hb dL_back_1 (by decide) ?_
  refine lv_aload_n hx hb dL_back_2 rfl (lv_at hl 0 rfl) ?_
  refine lv_iload_n hx hb dL_back_3 rfl (lv_at hl 1 rfl) ?_
  refine kx_call (Xr := wO cL o0 fo) (n := 1) hM hx hb hml hown hts gL_back_X0_back rfl hrm ⟨rfl, by decide +kernel⟩ rfl ⟨Nat.succ_le_succ hrf.1, Nat.le_trans (Nat.add_le_add_left hrf.2 _) (Nat.le_of_ble_eq_true rfl)⟩ hK hP hD hS hA hZ [0] [0, 1, 2, 3, 4, 5, 6] [7] rfl rfl rfl (by decide) (by decide) (q0 := 0) rfl rfl rfl (by decide) hl.1 rfl (Nat.le_of_ble_eq_true rfl) dL_back_4 ⟨Nat.le_of_ble_eq_true rfl, Nat.le_of_ble_eq_true rfl⟩ (fun ce9 q9 H locs hP hD hS hce hcv hcl => ?_)
  have hP := hP.sub (ws' := wX0 cA h0 q0 q1 q2 q3 q4 q5 w ce nm tl tc tw T n z wtc wia off ++ wO cL o0 fo) [1, 2, 3, 4, 5, 6, 7, 0] rfl
  have hD := hD.sub (ws' := wX0 cA h0 q0 q1 q2 q3 q4 q5 w ce nm tl tc tw T n z wtc wia off ++ wO cL o0 fo) [1, 2, 3, 4, 5, 6, 7, 0] (by decide) rfl
  refine vx_catch (own := RL) (name := kIAE) (E := kIAE) hown [] ⟨0, 9, 12, 19⟩ [⟨0, 9, 15, 13⟩] (by rw [hxt]; rfl) (fun z hz => by simp at hz) (by decide) (by decide) (hts (.classLink RL 19 kIAE) (by decide +kernel)) (va_Nw.use rfl (hZ.2.2.2.1 _ List.mem_cons_self)) hce hcv hcl ?_
  refine lv_astore_n (lv' := [(3, .ref q9), (0, .ref h0), (1, .int p0), (2, .ref o0)]) hx hb dL_back_12 rfl hl (by decide) rfl (fun ls hl => ?_)
  refine lv_iconst (v := (nI 1)) hx hb dL_back_13 (by decide) ?_
  exact kc_ret hx hb hr hlocks hP hK hD hS ⟨Nat.le_of_ble_eq_true rfl, Nat.le_of_ble_eq_true rfl⟩ dL_back_14 rfl rfl
set_option maxHeartbeats 4000000 in
set_option maxRecDepth 100000 in
theorem cL_back_xISE (l : Launch) (dC : Nat → ClassId) (dI : Nat → Nat → Nat) (cA cL : ClassId) (h0 q0 q1 q2 q3 q4 q5 o0 : Nat) (w ce nm tl tc tw : Nat → Int32) (T n z : Nat) (wtc wia off : Int32) (fo : Nat → Int64) (p0 : Int32) (rm : Room) (hM : kMx l yX0_back wsX0_back rm dC dI [(cA, .int)] (wX0 cA h0 q0 q1 q2 q3 q4 q5 w ce nm tl tc tw T n z wtc wia off) [.ref h0, .int p0] kISE) (hrm : rm.cells = 1 ∧ rm.slots = 6) (hrf : rm.frames ≤ 8 ∧ rm.locals ≤ 130) : kMc l yL_back wsL_back ({ frames := 9, cells := 1, slots := 6, locals := 160 }) dC dI [(cA, .int), (cL, .long)] (wX0 cA h0 q0 q1 q2 q3 q4 q5 w ce nm tl tc tw T n z wtc wia off ++ wO cL o0 fo) [.ref h0, .int p0, .ref o0] (nI 2) (wX0 cA h0 q0 q1 q2 q3 q4 q5 w ce nm tl tc tw T n z wtc wia off ++ wO cL o0 fo) := by
  refine kc_of (cc := cL_back) (maxL := 4) (ret := some .int) (by decide) rfl (Nat.le_of_ble_eq_true rfl) ?_
  intro p e s m below meth c A ls hx hb hml hr hts hown hlocks hA hP hK hD hS hZ hN hxt hl
  have hl : lv_has ls 4 [(0, .ref h0), (1, .int p0), (2, .ref o0)] := hl
  refine lv_aload_n hx hb dL_back_0 rfl (lv_at hl 2 rfl) ?_
  refine lv_iconst (v := (nI 0)) hx hb dL_back_1 (by decide) ?_
  refine lv_aload_n hx hb dL_back_2 rfl (lv_at hl 0 rfl) ?_
  refine lv_iload_n hx hb dL_back_3 rfl (lv_at hl 1 rfl) ?_
  refine kx_call (Xr := wO cL o0 fo) (n := 1) hM hx hb hml hown hts gL_back_X0_back rfl hrm ⟨rfl, by decide +kernel⟩ rfl ⟨Nat.succ_le_succ hrf.1, Nat.le_trans (Nat.add_le_add_left hrf.2 _) (Nat.le_of_ble_eq_true rfl)⟩ hK hP hD hS hA hZ [0] [0, 1, 2, 3, 4, 5, 6] [7] rfl rfl rfl (by decide) (by decide) (q0 := 0) rfl rfl rfl (by decide) hl.1 rfl (Nat.le_of_ble_eq_true rfl) dL_back_4 ⟨Nat.le_of_ble_eq_true rfl, Nat.le_of_ble_eq_true rfl⟩ (fun ce9 q9 H locs hP hD hS hce hcv hcl => ?_)
  have hP := hP.sub (ws' := wX0 cA h0 q0 q1 q2 q3 q4 q5 w ce nm tl tc tw T n z wtc wia off ++ wO cL o0 fo) [1, 2, 3, 4, 5, 6, 7, 0] rfl
  have hD := hD.sub (ws' := wX0 cA h0 q0 q1 q2 q3 q4 q5 w ce nm tl tc tw T n z wtc wia off ++ wO cL o0 fo) [1, 2, 3, 4, 5, 6, 7, 0] (by decide) rfl
  refine vx_catch (own := RL) (name := kISE) (E := kISE) hown [⟨0, 9, 12, 19⟩] ⟨0, 9, 15, 13⟩ [] (by rw [hxt]; rfl) (fun z hz => by rcases List.mem_singleton.mp hz with rfl; exact Or.inr ⟨by decide, kIAE, hts (.classLink RL 19 kIAE) (by decide +kernel), hN⟩) (by decide) (by decide) (hts (.classLink RL 13 kISE) (by decide +kernel)) (va_Nw.use rfl (hZ.2.2.1 _ List.mem_cons_self)) hce hcv hcl ?_
  refine lv_astore_n (lv' := [(3, .ref q9), (0, .ref h0), (1, .int p0), (2, .ref o0)]) hx hb dL_back_15 rfl hl (by decide) rfl (fun ls hl => ?_)
  refine lv_iconst (v := (nI 2)) hx hb dL_back_16 (by decide) ?_
  exact kc_ret hx hb hr hlocks hP hK hD hS ⟨Nat.le_of_ble_eq_true rfl, Nat.le_of_ble_eq_true rfl⟩ dL_back_17 rfl rfl
set_option maxHeartbeats 4000000 in
set_option maxRecDepth 100000 in
theorem cL_release_ok (l : Launch) (dC : Nat → ClassId) (dI : Nat → Nat → Nat) (cA cL : ClassId) (h0 q0 q1 q2 q3 q4 q5 o0 : Nat) (w ce nm tl tc tw : Nat → Int32) (T n z : Nat) (wtc wia off : Int32) (fo : Nat → Int64) (w2 ce2 nm2 tl2 tc2 tw2 : Nat → Int32) (T2 n2 z2 : Nat) (wtc2 wia2 off2 : Int32) (p0 : Int32) (r : Int32) (rm : Room) (hM : kMi l yX0_release wsX0_release rm dC dI [(cA, .int)] (wX0 cA h0 q0 q1 q2 q3 q4 q5 w ce nm tl tc tw T n z wtc wia off) [.ref h0, .int p0] r (wX0 cA h0 q0 q1 q2 q3 q4 q5 w2 ce2 nm2 tl2 tc2 tw2 T2 n2 z2 wtc2 wia2 off2)) (hrm : rm.cells = 0 ∧ rm.slots = 0) (hrf : rm.frames ≤ 8 ∧ rm.locals ≤ 130) : kMc l yL_release wsL_release ({ frames := 9, cells := 1, slots := 6, locals := 160 }) dC dI [(cA, .int), (cL, .long)] (wX0 cA h0 q0 q1 q2 q3 q4 q5 w ce nm tl tc tw T n z wtc wia off ++ wO cL o0 fo) [.ref h0, .int p0, .ref o0] (nI 0) (wX0 cA h0 q0 q1 q2 q3 q4 q5 w2 ce2 nm2 tl2 tc2 tw2 T2 n2 z2 wtc2 wia2 off2 ++ wO cL o0 (vp_updL fo 0 r.toInt64)) := by
  refine kc_of (cc := cL_release) (maxL := 4) (ret := some .int) (by decide) rfl (Nat.le_of_ble_eq_true rfl) ?_
  intro p e s m below meth c A ls hx hb hml hr hts hown hlocks hA hP hK hD hS hZ hN hxt hl
  have hl : lv_has ls 4 [(0, .ref h0), (1, .int p0), (2, .ref o0)] := hl
  refine lv_aload_n hx hb dL_release_0 rfl (lv_at hl 2 rfl) ?_
  refine lv_iconst (v := (nI 0)) hx hb dL_release_1 (by decide) ?_
  refine lv_aload_n hx hb dL_release_2 rfl (lv_at hl 0 rfl) ?_
  refine lv_iload_n hx hb dL_release_3 rfl (lv_at hl 1 rfl) ?_
  refine kv_Vi (Xr := wO cL o0 fo) (n := 1) hM hx hb hml hown hts gL_release_X0_release rfl hrm ⟨rfl, by decide +kernel⟩ rfl ⟨Nat.succ_le_succ hrf.1, Nat.le_trans (Nat.add_le_add_left hrf.2 _) (Nat.le_of_ble_eq_true rfl)⟩ hK hP hD hS hA [0] [0, 1, 2, 3, 4, 5, 6] [7] rfl rfl rfl (by decide) (by decide) (q0 := 0) rfl rfl rfl (by decide) hl.1 rfl (Nat.le_of_ble_eq_true rfl) dL_release_4 ⟨Nat.zero_le _, Nat.zero_le _⟩ (fun H locs hP hD hS => ?_)
  have hP := hP.sub (ws' := wX0 cA h0 q0 q1 q2 q3 q4 q5 w2 ce2 nm2 tl2 tc2 tw2 T2 n2 z2 wtc2 wia2 off2 ++ wO cL o0 fo) [1, 2, 3, 4, 5, 6, 7, 0] rfl
  have hD := hD.sub (ws' := wX0 cA h0 q0 q1 q2 q3 q4 q5 w2 ce2 nm2 tl2 tc2 tw2 T2 n2 z2 wtc2 wia2 off2 ++ wO cL o0 fo) [1, 2, 3, 4, 5, 6, 7, 0] (by decide) rfl
  refine lv_i2l hx hb dL_release_7 rfl ?_
  refine va_last (D := (dC, dI)) hx hb hK hP hD hS 7 1 rfl rfl ko_in dL_release_8 (fun H locs hP hD hS => ?_)
  refine lv_goto (tgt := 18) hx hb dL_release_9 (by decide) ?_
  refine lv_iconst (v := (nI 0)) hx hb dL_release_18 (by decide) ?_
  exact kc_ret hx hb hr hlocks hP hK hD hS ⟨Nat.le_of_ble_eq_true rfl, Nat.le_of_ble_eq_true rfl⟩ dL_release_19 rfl rfl
set_option maxHeartbeats 4000000 in
set_option maxRecDepth 100000 in
theorem cL_release_xIAE (l : Launch) (dC : Nat → ClassId) (dI : Nat → Nat → Nat) (cA cL : ClassId) (h0 q0 q1 q2 q3 q4 q5 o0 : Nat) (w ce nm tl tc tw : Nat → Int32) (T n z : Nat) (wtc wia off : Int32) (fo : Nat → Int64) (p0 : Int32) (rm : Room) (hM : kMx l yX0_release wsX0_release rm dC dI [(cA, .int)] (wX0 cA h0 q0 q1 q2 q3 q4 q5 w ce nm tl tc tw T n z wtc wia off) [.ref h0, .int p0] kIAE) (hrm : rm.cells = 1 ∧ rm.slots = 6) (hrf : rm.frames ≤ 8 ∧ rm.locals ≤ 130) : kMc l yL_release wsL_release ({ frames := 9, cells := 1, slots := 6, locals := 160 }) dC dI [(cA, .int), (cL, .long)] (wX0 cA h0 q0 q1 q2 q3 q4 q5 w ce nm tl tc tw T n z wtc wia off ++ wO cL o0 fo) [.ref h0, .int p0, .ref o0] (nI 1) (wX0 cA h0 q0 q1 q2 q3 q4 q5 w ce nm tl tc tw T n z wtc wia off ++ wO cL o0 fo) := by
  refine kc_of (cc := cL_release) (maxL := 4) (ret := some .int) (by decide) rfl (Nat.le_of_ble_eq_true rfl) ?_
  intro p e s m below meth c A ls hx hb hml hr hts hown hlocks hA hP hK hD hS hZ hN hxt hl
  have hl : lv_has ls 4 [(0, .ref h0), (1, .int p0), (2, .ref o0)] := hl
  refine lv_aload_n hx hb dL_release_0 rfl (lv_at hl 2 rfl) ?_
  refine lv_iconst (v := (nI 0)) hx hb dL_release_1 (by decide) ?_
  refine lv_aload_n hx hb dL_release_2 rfl (lv_at hl 0 rfl) ?_
  refine lv_iload_n hx hb dL_release_3 rfl (lv_at hl 1 rfl) ?_
  refine kx_call (Xr := wO cL o0 fo) (n := 1) hM hx hb hml hown hts gL_release_X0_release rfl hrm ⟨rfl, by decide +kernel⟩ rfl ⟨Nat.succ_le_succ hrf.1, Nat.le_trans (Nat.add_le_add_left hrf.2 _) (Nat.le_of_ble_eq_true rfl)⟩ hK hP hD hS hA hZ [0] [0, 1, 2, 3, 4, 5, 6] [7] rfl rfl rfl (by decide) (by decide) (q0 := 0) rfl rfl rfl (by decide) hl.1 rfl (Nat.le_of_ble_eq_true rfl) dL_release_4 ⟨Nat.le_of_ble_eq_true rfl, Nat.le_of_ble_eq_true rfl⟩ (fun ce9 q9 H locs hP hD hS hce hcv hcl => ?_)
  have hP := hP.sub (ws' := wX0 cA h0 q0 q1 q2 q3 q4 q5 w ce nm tl tc tw T n z wtc wia off ++ wO cL o0 fo) [1, 2, 3, 4, 5, 6, 7, 0] rfl
  have hD := hD.sub (ws' := wX0 cA h0 q0 q1 q2 q3 q4 q5 w ce nm tl tc tw T n z wtc wia off ++ wO cL o0 fo) [1, 2, 3, 4, 5, 6, 7, 0] (by decide) rfl
  refine vx_catch (own := RL) (name := kIAE) (E := kIAE) hown [] ⟨0, 9, 12, 19⟩ [⟨0, 9, 15, 13⟩] (by rw [hxt]; rfl) (fun z hz => by simp at hz) (by decide) (by decide) (hts (.classLink RL 19 kIAE) (by decide +kernel)) (va_Nw.use rfl (hZ.2.2.2.1 _ List.mem_cons_self)) hce hcv hcl ?_
  refine lv_astore_n (lv' := [(3, .ref q9), (0, .ref h0), (1, .int p0), (2, .ref o0)]) hx hb dL_release_12 rfl hl (by decide) rfl (fun ls hl => ?_)
  refine lv_iconst (v := (nI 1)) hx hb dL_release_13 (by decide) ?_
  exact kc_ret hx hb hr hlocks hP hK hD hS ⟨Nat.le_of_ble_eq_true rfl, Nat.le_of_ble_eq_true rfl⟩ dL_release_14 rfl rfl
set_option maxHeartbeats 4000000 in
set_option maxRecDepth 100000 in
theorem cL_release_xISE (l : Launch) (dC : Nat → ClassId) (dI : Nat → Nat → Nat) (cA cL : ClassId) (h0 q0 q1 q2 q3 q4 q5 o0 : Nat) (w ce nm tl tc tw : Nat → Int32) (T n z : Nat) (wtc wia off : Int32) (fo : Nat → Int64) (p0 : Int32) (rm : Room) (hM : kMx l yX0_release wsX0_release rm dC dI [(cA, .int)] (wX0 cA h0 q0 q1 q2 q3 q4 q5 w ce nm tl tc tw T n z wtc wia off) [.ref h0, .int p0] kISE) (hrm : rm.cells = 1 ∧ rm.slots = 6) (hrf : rm.frames ≤ 8 ∧ rm.locals ≤ 130) : kMc l yL_release wsL_release ({ frames := 9, cells := 1, slots := 6, locals := 160 }) dC dI [(cA, .int), (cL, .long)] (wX0 cA h0 q0 q1 q2 q3 q4 q5 w ce nm tl tc tw T n z wtc wia off ++ wO cL o0 fo) [.ref h0, .int p0, .ref o0] (nI 2) (wX0 cA h0 q0 q1 q2 q3 q4 q5 w ce nm tl tc tw T n z wtc wia off ++ wO cL o0 fo) := by
  refine kc_of (cc := cL_release) (maxL := 4) (ret := some .int) (by decide) rfl (Nat.le_of_ble_eq_true rfl) ?_
  intro p e s m below meth c A ls hx hb hml hr hts hown hlocks hA hP hK hD hS hZ hN hxt hl
  have hl : lv_has ls 4 [(0, .ref h0), (1, .int p0), (2, .ref o0)] := hl
  refine lv_aload_n hx hb dL_release_0 rfl (lv_at hl 2 rfl) ?_
  refine lv_iconst (v := (nI 0)) hx hb dL_release_1 (by decide) ?_
  refine lv_aload_n hx hb dL_release_2 rfl (lv_at hl 0 rfl) ?_
  refine lv_iload_n hx hb dL_release_3 rfl (lv_at hl 1 rfl) ?_
  refine kx_call (Xr := wO cL o0 fo) (n := 1) hM hx hb hml hown hts gL_release_X0_release rfl hrm ⟨rfl, by decide +kernel⟩ rfl ⟨Nat.succ_le_succ hrf.1, Nat.le_trans (Nat.add_le_add_left hrf.2 _) (Nat.le_of_ble_eq_true rfl)⟩ hK hP hD hS hA hZ [0] [0, 1, 2, 3, 4, 5, 6] [7] rfl rfl rfl (by decide) (by decide) (q0 := 0) rfl rfl rfl (by decide) hl.1 rfl (Nat.le_of_ble_eq_true rfl) dL_release_4 ⟨Nat.le_of_ble_eq_true rfl, Nat.le_of_ble_eq_true rfl⟩ (fun ce9 q9 H locs hP hD hS hce hcv hcl => ?_)
  have hP := hP.sub (ws' := wX0 cA h0 q0 q1 q2 q3 q4 q5 w ce nm tl tc tw T n z wtc wia off ++ wO cL o0 fo) [1, 2, 3, 4, 5, 6, 7, 0] rfl
  have hD := hD.sub (ws' := wX0 cA h0 q0 q1 q2 q3 q4 q5 w ce nm tl tc tw T n z wtc wia off ++ wO cL o0 fo) [1, 2, 3, 4, 5, 6, 7, 0] (by decide) rfl
  refine vx_catch (own := RL) (name := kISE) (E := kISE) hown [⟨0, 9, 12, 19⟩] ⟨0, 9, 15, 13⟩ [] (by rw [hxt]; rfl) (fun z hz => by rcases List.mem_singleton.mp hz with rfl; exact Or.inr ⟨by decide, kIAE, hts (.classLink RL 19 kIAE) (by decide +kernel), hN⟩) (by decide) (by decide) (hts (.classLink RL 13 kISE) (by decide +kernel)) (va_Nw.use rfl (hZ.2.2.1 _ List.mem_cons_self)) hce hcv hcl ?_
  refine lv_astore_n (lv' := [(3, .ref q9), (0, .ref h0), (1, .int p0), (2, .ref o0)]) hx hb dL_release_15 rfl hl (by decide) rfl (fun ls hl => ?_)
  refine lv_iconst (v := (nI 2)) hx hb dL_release_16 (by decide) ?_
  exact kc_ret hx hb hr hlocks hP hK hD hS ⟨Nat.le_of_ble_eq_true rfl, Nat.le_of_ble_eq_true rfl⟩ dL_release_17 rfl rfl
set_option maxHeartbeats 4000000 in
set_option maxRecDepth 100000 in
theorem cL_disk_ok (l : Launch) (dC : Nat → ClassId) (dI : Nat → Nat → Nat) (cA cL : ClassId) (h0 q0 q1 q2 q3 q4 q5 o0 : Nat) (w ce nm tl tc tw : Nat → Int32) (T n z : Nat) (wtc wia off : Int32) (fo : Nat → Int64) (w2 ce2 nm2 tl2 tc2 tw2 : Nat → Int32) (T2 n2 z2 : Nat) (wtc2 wia2 off2 : Int32) (p0 : Int32) (r : Int32) (rm : Room) (hM : kMi l yX0_disk wsX0_disk rm dC dI [(cA, .int)] (wX0 cA h0 q0 q1 q2 q3 q4 q5 w ce nm tl tc tw T n z wtc wia off) [.ref h0, .int p0] r (wX0 cA h0 q0 q1 q2 q3 q4 q5 w2 ce2 nm2 tl2 tc2 tw2 T2 n2 z2 wtc2 wia2 off2)) (hrm : rm.cells = 0 ∧ rm.slots = 0) (hrf : rm.frames ≤ 8 ∧ rm.locals ≤ 130) : kMc l yL_disk wsL_disk ({ frames := 9, cells := 1, slots := 6, locals := 160 }) dC dI [(cA, .int), (cL, .long)] (wX0 cA h0 q0 q1 q2 q3 q4 q5 w ce nm tl tc tw T n z wtc wia off ++ wO cL o0 fo) [.ref h0, .int p0, .ref o0] (nI 0) (wX0 cA h0 q0 q1 q2 q3 q4 q5 w2 ce2 nm2 tl2 tc2 tw2 T2 n2 z2 wtc2 wia2 off2 ++ wO cL o0 (vp_updL fo 0 r.toInt64)) := by
  refine kc_of (cc := cL_disk) (maxL := 4) (ret := some .int) (by decide) rfl (Nat.le_of_ble_eq_true rfl) ?_
  intro p e s m below meth c A ls hx hb hml hr hts hown hlocks hA hP hK hD hS hZ hN hxt hl
  have hl : lv_has ls 4 [(0, .ref h0), (1, .int p0), (2, .ref o0)] := hl
  refine lv_aload_n hx hb dL_disk_0 rfl (lv_at hl 2 rfl) ?_
  refine lv_iconst (v := (nI 0)) hx hb dL_disk_1 (by decide) ?_
  refine lv_aload_n hx hb dL_disk_2 rfl (lv_at hl 0 rfl) ?_
  refine lv_iload_n hx hb dL_disk_3 rfl (lv_at hl 1 rfl) ?_
  refine kv_Vi (Xr := wO cL o0 fo) (n := 1) hM hx hb hml hown hts gL_disk_X0_disk rfl hrm ⟨rfl, by decide +kernel⟩ rfl ⟨Nat.succ_le_succ hrf.1, Nat.le_trans (Nat.add_le_add_left hrf.2 _) (Nat.le_of_ble_eq_true rfl)⟩ hK hP hD hS hA [0] [0, 1, 2, 3, 4, 5, 6] [7] rfl rfl rfl (by decide) (by decide) (q0 := 0) rfl rfl rfl (by decide) hl.1 rfl (Nat.le_of_ble_eq_true rfl) dL_disk_4 ⟨Nat.zero_le _, Nat.zero_le _⟩ (fun H locs hP hD hS => ?_)
  have hP := hP.sub (ws' := wX0 cA h0 q0 q1 q2 q3 q4 q5 w2 ce2 nm2 tl2 tc2 tw2 T2 n2 z2 wtc2 wia2 off2 ++ wO cL o0 fo) [1, 2, 3, 4, 5, 6, 7, 0] rfl
  have hD := hD.sub (ws' := wX0 cA h0 q0 q1 q2 q3 q4 q5 w2 ce2 nm2 tl2 tc2 tw2 T2 n2 z2 wtc2 wia2 off2 ++ wO cL o0 fo) [1, 2, 3, 4, 5, 6, 7, 0] (by decide) rfl
  refine lv_i2l hx hb dL_disk_7 rfl ?_
  refine va_last (D := (dC, dI)) hx hb hK hP hD hS 7 1 rfl rfl ko_in dL_disk_8 (fun H locs hP hD hS => ?_)
  refine lv_goto (tgt := 15) hx hb dL_disk_9 (by decide) ?_
  refine lv_iconst (v := (nI 0)) hx hb dL_disk_15 (by decide) ?_
  exact kc_ret hx hb hr hlocks hP hK hD hS ⟨Nat.le_of_ble_eq_true rfl, Nat.le_of_ble_eq_true rfl⟩ dL_disk_16 rfl rfl
set_option maxHeartbeats 4000000 in
set_option maxRecDepth 100000 in
theorem cL_disk_xIAE (l : Launch) (dC : Nat → ClassId) (dI : Nat → Nat → Nat) (cA cL : ClassId) (h0 q0 q1 q2 q3 q4 q5 o0 : Nat) (w ce nm tl tc tw : Nat → Int32) (T n z : Nat) (wtc wia off : Int32) (fo : Nat → Int64) (p0 : Int32) (rm : Room) (hM : kMx l yX0_disk wsX0_disk rm dC dI [(cA, .int)] (wX0 cA h0 q0 q1 q2 q3 q4 q5 w ce nm tl tc tw T n z wtc wia off) [.ref h0, .int p0] kIAE) (hrm : rm.cells = 1 ∧ rm.slots = 6) (hrf : rm.frames ≤ 8 ∧ rm.locals ≤ 130) : kMc l yL_disk wsL_disk ({ frames := 9, cells := 1, slots := 6, locals := 160 }) dC dI [(cA, .int), (cL, .long)] (wX0 cA h0 q0 q1 q2 q3 q4 q5 w ce nm tl tc tw T n z wtc wia off ++ wO cL o0 fo) [.ref h0, .int p0, .ref o0] (nI 1) (wX0 cA h0 q0 q1 q2 q3 q4 q5 w ce nm tl tc tw T n z wtc wia off ++ wO cL o0 fo) := by
  refine kc_of (cc := cL_disk) (maxL := 4) (ret := some .int) (by decide) rfl (Nat.le_of_ble_eq_true rfl) ?_
  intro p e s m below meth c A ls hx hb hml hr hts hown hlocks hA hP hK hD hS hZ hN hxt hl
  have hl : lv_has ls 4 [(0, .ref h0), (1, .int p0), (2, .ref o0)] := hl
  refine lv_aload_n hx hb dL_disk_0 rfl (lv_at hl 2 rfl) ?_
  refine lv_iconst (v := (nI 0)) hx hb dL_disk_1 (by decide) ?_
  refine lv_aload_n hx hb dL_disk_2 rfl (lv_at hl 0 rfl) ?_
  refine lv_iload_n hx hb dL_disk_3 rfl (lv_at hl 1 rfl) ?_
  refine kx_call (Xr := wO cL o0 fo) (n := 1) hM hx hb hml hown hts gL_disk_X0_disk rfl hrm ⟨rfl, by decide +kernel⟩ rfl ⟨Nat.succ_le_succ hrf.1, Nat.le_trans (Nat.add_le_add_left hrf.2 _) (Nat.le_of_ble_eq_true rfl)⟩ hK hP hD hS hA hZ [0] [0, 1, 2, 3, 4, 5, 6] [7] rfl rfl rfl (by decide) (by decide) (q0 := 0) rfl rfl rfl (by decide) hl.1 rfl (Nat.le_of_ble_eq_true rfl) dL_disk_4 ⟨Nat.le_of_ble_eq_true rfl, Nat.le_of_ble_eq_true rfl⟩ (fun ce9 q9 H locs hP hD hS hce hcv hcl => ?_)
  have hP := hP.sub (ws' := wX0 cA h0 q0 q1 q2 q3 q4 q5 w ce nm tl tc tw T n z wtc wia off ++ wO cL o0 fo) [1, 2, 3, 4, 5, 6, 7, 0] rfl
  have hD := hD.sub (ws' := wX0 cA h0 q0 q1 q2 q3 q4 q5 w ce nm tl tc tw T n z wtc wia off ++ wO cL o0 fo) [1, 2, 3, 4, 5, 6, 7, 0] (by decide) rfl
  refine vx_catch (own := RL) (name := kIAE) (E := kIAE) hown [] ⟨0, 9, 12, 19⟩ [] (by rw [hxt]; rfl) (fun z hz => by simp at hz) (by decide) (by decide) (hts (.classLink RL 19 kIAE) (by decide +kernel)) (va_Nw.use rfl (hZ.2.2.2.1 _ List.mem_cons_self)) hce hcv hcl ?_
  refine lv_astore_n (lv' := [(3, .ref q9), (0, .ref h0), (1, .int p0), (2, .ref o0)]) hx hb dL_disk_12 rfl hl (by decide) rfl (fun ls hl => ?_)
  refine lv_iconst (v := (nI 1)) hx hb dL_disk_13 (by decide) ?_
  exact kc_ret hx hb hr hlocks hP hK hD hS ⟨Nat.le_of_ble_eq_true rfl, Nat.le_of_ble_eq_true rfl⟩ dL_disk_14 rfl rfl
set_option maxHeartbeats 4000000 in
set_option maxRecDepth 100000 in
theorem cL_spoil_ok (l : Launch) (dC : Nat → ClassId) (dI : Nat → Nat → Nat) (cA cL : ClassId) (h0 q0 q1 q2 q3 q4 q5 o0 : Nat) (w ce nm tl tc tw : Nat → Int32) (T n z : Nat) (wtc wia off : Int32) (fo : Nat → Int64) (w2 ce2 nm2 tl2 tc2 tw2 : Nat → Int32) (T2 n2 z2 : Nat) (wtc2 wia2 off2 : Int32) (p0 p1 : Int32) (r : Int32) (rm : Room) (hM : kMi l yX0_spoil wsX0_spoil rm dC dI [(cA, .int)] (wX0 cA h0 q0 q1 q2 q3 q4 q5 w ce nm tl tc tw T n z wtc wia off) [.ref h0, .int p0, .int p1] r (wX0 cA h0 q0 q1 q2 q3 q4 q5 w2 ce2 nm2 tl2 tc2 tw2 T2 n2 z2 wtc2 wia2 off2)) (hrm : rm.cells = 0 ∧ rm.slots = 0) (hrf : rm.frames ≤ 8 ∧ rm.locals ≤ 130) : kMc l yL_spoil wsL_spoil ({ frames := 9, cells := 1, slots := 6, locals := 160 }) dC dI [(cA, .int), (cL, .long)] (wX0 cA h0 q0 q1 q2 q3 q4 q5 w ce nm tl tc tw T n z wtc wia off ++ wO cL o0 fo) [.ref h0, .int p0, .int p1, .ref o0] (nI 0) (wX0 cA h0 q0 q1 q2 q3 q4 q5 w2 ce2 nm2 tl2 tc2 tw2 T2 n2 z2 wtc2 wia2 off2 ++ wO cL o0 (vp_updL fo 0 r.toInt64)) := by
  refine kc_of (cc := cL_spoil) (maxL := 5) (ret := some .int) (by decide) rfl (Nat.le_of_ble_eq_true rfl) ?_
  intro p e s m below meth c A ls hx hb hml hr hts hown hlocks hA hP hK hD hS hZ hN hxt hl
  have hl : lv_has ls 5 [(0, .ref h0), (1, .int p0), (2, .int p1), (3, .ref o0)] := hl
  refine lv_aload_n hx hb dL_spoil_0 rfl (lv_at hl 3 rfl) ?_
  refine lv_iconst (v := (nI 0)) hx hb dL_spoil_1 (by decide) ?_
  refine lv_aload_n hx hb dL_spoil_2 rfl (lv_at hl 0 rfl) ?_
  refine lv_iload_n hx hb dL_spoil_3 rfl (lv_at hl 1 rfl) ?_
  refine lv_iload_n hx hb dL_spoil_4 rfl (lv_at hl 2 rfl) ?_
  refine kv_Vi (Xr := wO cL o0 fo) (n := 2) hM hx hb hml hown hts gL_spoil_X0_spoil rfl hrm ⟨rfl, by decide +kernel⟩ rfl ⟨Nat.succ_le_succ hrf.1, Nat.le_trans (Nat.add_le_add_left hrf.2 _) (Nat.le_of_ble_eq_true rfl)⟩ hK hP hD hS hA [0] [0, 1, 2, 3, 4, 5, 6] [7] rfl rfl rfl (by decide) (by decide) (q0 := 0) rfl rfl rfl (by decide) hl.1 rfl (Nat.le_of_ble_eq_true rfl) dL_spoil_5 ⟨Nat.zero_le _, Nat.zero_le _⟩ (fun H locs hP hD hS => ?_)
  have hP := hP.sub (ws' := wX0 cA h0 q0 q1 q2 q3 q4 q5 w2 ce2 nm2 tl2 tc2 tw2 T2 n2 z2 wtc2 wia2 off2 ++ wO cL o0 fo) [1, 2, 3, 4, 5, 6, 7, 0] rfl
  have hD := hD.sub (ws' := wX0 cA h0 q0 q1 q2 q3 q4 q5 w2 ce2 nm2 tl2 tc2 tw2 T2 n2 z2 wtc2 wia2 off2 ++ wO cL o0 fo) [1, 2, 3, 4, 5, 6, 7, 0] (by decide) rfl
  refine lv_i2l hx hb dL_spoil_8 rfl ?_
  refine va_last (D := (dC, dI)) hx hb hK hP hD hS 7 1 rfl rfl ko_in dL_spoil_9 (fun H locs hP hD hS => ?_)
  refine lv_goto (tgt := 17) hx hb dL_spoil_10 (by decide) ?_
  refine lv_iconst (v := (nI 0)) hx hb dL_spoil_17 (by decide) ?_
  exact kc_ret hx hb hr hlocks hP hK hD hS ⟨Nat.le_of_ble_eq_true rfl, Nat.le_of_ble_eq_true rfl⟩ dL_spoil_18 rfl rfl
set_option maxHeartbeats 4000000 in
set_option maxRecDepth 100000 in
theorem cL_spoil_xIAE (l : Launch) (dC : Nat → ClassId) (dI : Nat → Nat → Nat) (cA cL : ClassId) (h0 q0 q1 q2 q3 q4 q5 o0 : Nat) (w ce nm tl tc tw : Nat → Int32) (T n z : Nat) (wtc wia off : Int32) (fo : Nat → Int64) (p0 p1 : Int32) (rm : Room) (hM : kMx l yX0_spoil wsX0_spoil rm dC dI [(cA, .int)] (wX0 cA h0 q0 q1 q2 q3 q4 q5 w ce nm tl tc tw T n z wtc wia off) [.ref h0, .int p0, .int p1] kIAE) (hrm : rm.cells = 1 ∧ rm.slots = 6) (hrf : rm.frames ≤ 8 ∧ rm.locals ≤ 130) : kMc l yL_spoil wsL_spoil ({ frames := 9, cells := 1, slots := 6, locals := 160 }) dC dI [(cA, .int), (cL, .long)] (wX0 cA h0 q0 q1 q2 q3 q4 q5 w ce nm tl tc tw T n z wtc wia off ++ wO cL o0 fo) [.ref h0, .int p0, .int p1, .ref o0] (nI 1) (wX0 cA h0 q0 q1 q2 q3 q4 q5 w ce nm tl tc tw T n z wtc wia off ++ wO cL o0 fo) := by
  refine kc_of (cc := cL_spoil) (maxL := 5) (ret := some .int) (by decide) rfl (Nat.le_of_ble_eq_true rfl) ?_
  intro p e s m below meth c A ls hx hb hml hr hts hown hlocks hA hP hK hD hS hZ hN hxt hl
  have hl : lv_has ls 5 [(0, .ref h0), (1, .int p0), (2, .int p1), (3, .ref o0)] := hl
  refine lv_aload_n hx hb dL_spoil_0 rfl (lv_at hl 3 rfl) ?_
  refine lv_iconst (v := (nI 0)) hx hb dL_spoil_1 (by decide) ?_
  refine lv_aload_n hx hb dL_spoil_2 rfl (lv_at hl 0 rfl) ?_
  refine lv_iload_n hx hb dL_spoil_3 rfl (lv_at hl 1 rfl) ?_
  refine lv_iload_n hx hb dL_spoil_4 rfl (lv_at hl 2 rfl) ?_
  refine kx_call (Xr := wO cL o0 fo) (n := 2) hM hx hb hml hown hts gL_spoil_X0_spoil rfl hrm ⟨rfl, by decide +kernel⟩ rfl ⟨Nat.succ_le_succ hrf.1, Nat.le_trans (Nat.add_le_add_left hrf.2 _) (Nat.le_of_ble_eq_true rfl)⟩ hK hP hD hS hA hZ [0] [0, 1, 2, 3, 4, 5, 6] [7] rfl rfl rfl (by decide) (by decide) (q0 := 0) rfl rfl rfl (by decide) hl.1 rfl (Nat.le_of_ble_eq_true rfl) dL_spoil_5 ⟨Nat.le_of_ble_eq_true rfl, Nat.le_of_ble_eq_true rfl⟩ (fun ce9 q9 H locs hP hD hS hce hcv hcl => ?_)
  have hP := hP.sub (ws' := wX0 cA h0 q0 q1 q2 q3 q4 q5 w ce nm tl tc tw T n z wtc wia off ++ wO cL o0 fo) [1, 2, 3, 4, 5, 6, 7, 0] rfl
  have hD := hD.sub (ws' := wX0 cA h0 q0 q1 q2 q3 q4 q5 w ce nm tl tc tw T n z wtc wia off ++ wO cL o0 fo) [1, 2, 3, 4, 5, 6, 7, 0] (by decide) rfl
  refine vx_catch (own := RL) (name := kIAE) (E := kIAE) hown [] ⟨0, 10, 13, 19⟩ [] (by rw [hxt]; rfl) (fun z hz => by simp at hz) (by decide) (by decide) (hts (.classLink RL 19 kIAE) (by decide +kernel)) (va_Nw.use rfl (hZ.2.2.2.1 _ List.mem_cons_self)) hce hcv hcl ?_
  refine lv_astore (lv' := [(4, .ref q9), (0, .ref h0), (1, .int p0), (2, .int p1), (3, .ref o0)]) hx hb dL_spoil_13 hl (by decide) rfl (fun ls hl => ?_)
  refine lv_iconst (v := (nI 1)) hx hb dL_spoil_15 (by decide) ?_
  exact kc_ret hx hb hr hlocks hP hK hD hS ⟨Nat.le_of_ble_eq_true rfl, Nat.le_of_ble_eq_true rfl⟩ dL_spoil_16 rfl rfl
set_option maxHeartbeats 4000000 in
set_option maxRecDepth 100000 in
theorem cL_level_ok (l : Launch) (dC : Nat → ClassId) (dI : Nat → Nat → Nat) (cA cL : ClassId) (h0 q0 q1 q2 q3 q4 q5 o0 : Nat) (w ce nm tl tc tw : Nat → Int32) (T n z : Nat) (wtc wia off : Int32) (fo : Nat → Int64) (w2 ce2 nm2 tl2 tc2 tw2 : Nat → Int32) (T2 n2 z2 : Nat) (wtc2 wia2 off2 : Int32) (p0 p1 : Int32) (r : Int32) (rm : Room) (hM : kMi l yX0_level wsX0_level rm dC dI [(cA, .int)] (wX0 cA h0 q0 q1 q2 q3 q4 q5 w ce nm tl tc tw T n z wtc wia off) [.ref h0, .int p0, .int p1] r (wX0 cA h0 q0 q1 q2 q3 q4 q5 w2 ce2 nm2 tl2 tc2 tw2 T2 n2 z2 wtc2 wia2 off2)) (hrm : rm.cells = 0 ∧ rm.slots = 0) (hrf : rm.frames ≤ 8 ∧ rm.locals ≤ 130) : kMc l yL_level wsL_level ({ frames := 9, cells := 1, slots := 6, locals := 160 }) dC dI [(cA, .int), (cL, .long)] (wX0 cA h0 q0 q1 q2 q3 q4 q5 w ce nm tl tc tw T n z wtc wia off ++ wO cL o0 fo) [.ref h0, .int p0, .int p1, .ref o0] (nI 0) (wX0 cA h0 q0 q1 q2 q3 q4 q5 w2 ce2 nm2 tl2 tc2 tw2 T2 n2 z2 wtc2 wia2 off2 ++ wO cL o0 (vp_updL fo 0 r.toInt64)) := by
  refine kc_of (cc := cL_level) (maxL := 5) (ret := some .int) (by decide) rfl (Nat.le_of_ble_eq_true rfl) ?_
  intro p e s m below meth c A ls hx hb hml hr hts hown hlocks hA hP hK hD hS hZ hN hxt hl
  have hl : lv_has ls 5 [(0, .ref h0), (1, .int p0), (2, .int p1), (3, .ref o0)] := hl
  refine lv_aload_n hx hb dL_level_0 rfl (lv_at hl 3 rfl) ?_
  refine lv_iconst (v := (nI 0)) hx hb dL_level_1 (by decide) ?_
  refine lv_aload_n hx hb dL_level_2 rfl (lv_at hl 0 rfl) ?_
  refine lv_iload_n hx hb dL_level_3 rfl (lv_at hl 1 rfl) ?_
  refine lv_iload_n hx hb dL_level_4 rfl (lv_at hl 2 rfl) ?_
  refine kv_Vi (Xr := wO cL o0 fo) (n := 2) hM hx hb hml hown hts gL_level_X0_level rfl hrm ⟨rfl, by decide +kernel⟩ rfl ⟨Nat.succ_le_succ hrf.1, Nat.le_trans (Nat.add_le_add_left hrf.2 _) (Nat.le_of_ble_eq_true rfl)⟩ hK hP hD hS hA [0] [0, 1, 2, 3, 4, 5, 6] [7] rfl rfl rfl (by decide) (by decide) (q0 := 0) rfl rfl rfl (by decide) hl.1 rfl (Nat.le_of_ble_eq_true rfl) dL_level_5 ⟨Nat.zero_le _, Nat.zero_le _⟩ (fun H locs hP hD hS => ?_)
  have hP := hP.sub (ws' := wX0 cA h0 q0 q1 q2 q3 q4 q5 w2 ce2 nm2 tl2 tc2 tw2 T2 n2 z2 wtc2 wia2 off2 ++ wO cL o0 fo) [1, 2, 3, 4, 5, 6, 7, 0] rfl
  have hD := hD.sub (ws' := wX0 cA h0 q0 q1 q2 q3 q4 q5 w2 ce2 nm2 tl2 tc2 tw2 T2 n2 z2 wtc2 wia2 off2 ++ wO cL o0 fo) [1, 2, 3, 4, 5, 6, 7, 0] (by decide) rfl
  refine lv_i2l hx hb dL_level_8 rfl ?_
  refine va_last (D := (dC, dI)) hx hb hK hP hD hS 7 1 rfl rfl ko_in dL_level_9 (fun H locs hP hD hS => ?_)
  refine lv_goto (tgt := 17) hx hb dL_level_10 (by decide) ?_
  refine lv_iconst (v := (nI 0)) hx hb dL_level_17 (by decide) ?_
  exact kc_ret hx hb hr hlocks hP hK hD hS ⟨Nat.le_of_ble_eq_true rfl, Nat.le_of_ble_eq_true rfl⟩ dL_level_18 rfl rfl
set_option maxHeartbeats 4000000 in
set_option maxRecDepth 100000 in
theorem cL_level_xIAE (l : Launch) (dC : Nat → ClassId) (dI : Nat → Nat → Nat) (cA cL : ClassId) (h0 q0 q1 q2 q3 q4 q5 o0 : Nat) (w ce nm tl tc tw : Nat → Int32) (T n z : Nat) (wtc wia off : Int32) (fo : Nat → Int64) (p0 p1 : Int32) (rm : Room) (hM : kMx l yX0_level wsX0_level rm dC dI [(cA, .int)] (wX0 cA h0 q0 q1 q2 q3 q4 q5 w ce nm tl tc tw T n z wtc wia off) [.ref h0, .int p0, .int p1] kIAE) (hrm : rm.cells = 1 ∧ rm.slots = 6) (hrf : rm.frames ≤ 8 ∧ rm.locals ≤ 130) : kMc l yL_level wsL_level ({ frames := 9, cells := 1, slots := 6, locals := 160 }) dC dI [(cA, .int), (cL, .long)] (wX0 cA h0 q0 q1 q2 q3 q4 q5 w ce nm tl tc tw T n z wtc wia off ++ wO cL o0 fo) [.ref h0, .int p0, .int p1, .ref o0] (nI 1) (wX0 cA h0 q0 q1 q2 q3 q4 q5 w ce nm tl tc tw T n z wtc wia off ++ wO cL o0 fo) := by
  refine kc_of (cc := cL_level) (maxL := 5) (ret := some .int) (by decide) rfl (Nat.le_of_ble_eq_true rfl) ?_
  intro p e s m below meth c A ls hx hb hml hr hts hown hlocks hA hP hK hD hS hZ hN hxt hl
  have hl : lv_has ls 5 [(0, .ref h0), (1, .int p0), (2, .int p1), (3, .ref o0)] := hl
  refine lv_aload_n hx hb dL_level_0 rfl (lv_at hl 3 rfl) ?_
  refine lv_iconst (v := (nI 0)) hx hb dL_level_1 (by decide) ?_
  refine lv_aload_n hx hb dL_level_2 rfl (lv_at hl 0 rfl) ?_
  refine lv_iload_n hx hb dL_level_3 rfl (lv_at hl 1 rfl) ?_
  refine lv_iload_n hx hb dL_level_4 rfl (lv_at hl 2 rfl) ?_
  refine kx_call (Xr := wO cL o0 fo) (n := 2) hM hx hb hml hown hts gL_level_X0_level rfl hrm ⟨rfl, by decide +kernel⟩ rfl ⟨Nat.succ_le_succ hrf.1, Nat.le_trans (Nat.add_le_add_left hrf.2 _) (Nat.le_of_ble_eq_true rfl)⟩ hK hP hD hS hA hZ [0] [0, 1, 2, 3, 4, 5, 6] [7] rfl rfl rfl (by decide) (by decide) (q0 := 0) rfl rfl rfl (by decide) hl.1 rfl (Nat.le_of_ble_eq_true rfl) dL_level_5 ⟨Nat.le_of_ble_eq_true rfl, Nat.le_of_ble_eq_true rfl⟩ (fun ce9 q9 H locs hP hD hS hce hcv hcl => ?_)
  have hP := hP.sub (ws' := wX0 cA h0 q0 q1 q2 q3 q4 q5 w ce nm tl tc tw T n z wtc wia off ++ wO cL o0 fo) [1, 2, 3, 4, 5, 6, 7, 0] rfl
  have hD := hD.sub (ws' := wX0 cA h0 q0 q1 q2 q3 q4 q5 w ce nm tl tc tw T n z wtc wia off ++ wO cL o0 fo) [1, 2, 3, 4, 5, 6, 7, 0] (by decide) rfl
  refine vx_catch (own := RL) (name := kIAE) (E := kIAE) hown [] ⟨0, 10, 13, 19⟩ [] (by rw [hxt]; rfl) (fun z hz => by simp at hz) (by decide) (by decide) (hts (.classLink RL 19 kIAE) (by decide +kernel)) (va_Nw.use rfl (hZ.2.2.2.1 _ List.mem_cons_self)) hce hcv hcl ?_
  refine lv_astore (lv' := [(4, .ref q9), (0, .ref h0), (1, .int p0), (2, .int p1), (3, .ref o0)]) hx hb dL_level_13 hl (by decide) rfl (fun ls hl => ?_)
  refine lv_iconst (v := (nI 1)) hx hb dL_level_15 (by decide) ?_
  exact kc_ret hx hb hr hlocks hP hK hD hS ⟨Nat.le_of_ble_eq_true rfl, Nat.le_of_ble_eq_true rfl⟩ dL_level_16 rfl rfl
set_option maxHeartbeats 4000000 in
set_option maxRecDepth 100000 in
theorem cL_about_ok (l : Launch) (dC : Nat → ClassId) (dI : Nat → Nat → Nat) (cA cL : ClassId) (h0 q0 q1 q2 q3 q4 q5 o0 : Nat) (w ce nm tl tc tw : Nat → Int32) (T n z : Nat) (wtc wia off : Int32) (fo : Nat → Int64) (w2 ce2 nm2 tl2 tc2 tw2 : Nat → Int32) (T2 n2 z2 : Nat) (wtc2 wia2 off2 : Int32) (p0 : Int32) (r : Int32) (rm : Room) (hM : kMi l yX0_about wsX0_about rm dC dI [(cA, .int)] (wX0 cA h0 q0 q1 q2 q3 q4 q5 w ce nm tl tc tw T n z wtc wia off) [.ref h0, .int p0] r (wX0 cA h0 q0 q1 q2 q3 q4 q5 w2 ce2 nm2 tl2 tc2 tw2 T2 n2 z2 wtc2 wia2 off2)) (hrm : rm.cells = 0 ∧ rm.slots = 0) (hrf : rm.frames ≤ 8 ∧ rm.locals ≤ 130) : kMc l yL_about wsL_about ({ frames := 9, cells := 1, slots := 6, locals := 160 }) dC dI [(cA, .int), (cL, .long)] (wX0 cA h0 q0 q1 q2 q3 q4 q5 w ce nm tl tc tw T n z wtc wia off ++ wO cL o0 fo) [.ref h0, .int p0, .ref o0] (nI 0) (wX0 cA h0 q0 q1 q2 q3 q4 q5 w2 ce2 nm2 tl2 tc2 tw2 T2 n2 z2 wtc2 wia2 off2 ++ wO cL o0 (vp_updL fo 0 r.toInt64)) := by
  refine kc_of (cc := cL_about) (maxL := 4) (ret := some .int) (by decide) rfl (Nat.le_of_ble_eq_true rfl) ?_
  intro p e s m below meth c A ls hx hb hml hr hts hown hlocks hA hP hK hD hS hZ hN hxt hl
  have hl : lv_has ls 4 [(0, .ref h0), (1, .int p0), (2, .ref o0)] := hl
  refine lv_aload_n hx hb dL_about_0 rfl (lv_at hl 2 rfl) ?_
  refine lv_iconst (v := (nI 0)) hx hb dL_about_1 (by decide) ?_
  refine lv_aload_n hx hb dL_about_2 rfl (lv_at hl 0 rfl) ?_
  refine lv_iload_n hx hb dL_about_3 rfl (lv_at hl 1 rfl) ?_
  refine kv_Vi (Xr := wO cL o0 fo) (n := 1) hM hx hb hml hown hts gL_about_X0_about rfl hrm ⟨rfl, by decide +kernel⟩ rfl ⟨Nat.succ_le_succ hrf.1, Nat.le_trans (Nat.add_le_add_left hrf.2 _) (Nat.le_of_ble_eq_true rfl)⟩ hK hP hD hS hA [0] [0, 1, 2, 3, 4, 5, 6] [7] rfl rfl rfl (by decide) (by decide) (q0 := 0) rfl rfl rfl (by decide) hl.1 rfl (Nat.le_of_ble_eq_true rfl) dL_about_4 ⟨Nat.zero_le _, Nat.zero_le _⟩ (fun H locs hP hD hS => ?_)
  have hP := hP.sub (ws' := wX0 cA h0 q0 q1 q2 q3 q4 q5 w2 ce2 nm2 tl2 tc2 tw2 T2 n2 z2 wtc2 wia2 off2 ++ wO cL o0 fo) [1, 2, 3, 4, 5, 6, 7, 0] rfl
  have hD := hD.sub (ws' := wX0 cA h0 q0 q1 q2 q3 q4 q5 w2 ce2 nm2 tl2 tc2 tw2 T2 n2 z2 wtc2 wia2 off2 ++ wO cL o0 fo) [1, 2, 3, 4, 5, 6, 7, 0] (by decide) rfl
  refine lv_i2l hx hb dL_about_7 rfl ?_
  refine va_last (D := (dC, dI)) hx hb hK hP hD hS 7 1 rfl rfl ko_in dL_about_8 (fun H locs hP hD hS => ?_)
  refine lv_goto (tgt := 15) hx hb dL_about_9 (by decide) ?_
  refine lv_iconst (v := (nI 0)) hx hb dL_about_15 (by decide) ?_
  exact kc_ret hx hb hr hlocks hP hK hD hS ⟨Nat.le_of_ble_eq_true rfl, Nat.le_of_ble_eq_true rfl⟩ dL_about_16 rfl rfl
set_option maxHeartbeats 4000000 in
set_option maxRecDepth 100000 in
theorem cL_about_xIAE (l : Launch) (dC : Nat → ClassId) (dI : Nat → Nat → Nat) (cA cL : ClassId) (h0 q0 q1 q2 q3 q4 q5 o0 : Nat) (w ce nm tl tc tw : Nat → Int32) (T n z : Nat) (wtc wia off : Int32) (fo : Nat → Int64) (p0 : Int32) (rm : Room) (hM : kMx l yX0_about wsX0_about rm dC dI [(cA, .int)] (wX0 cA h0 q0 q1 q2 q3 q4 q5 w ce nm tl tc tw T n z wtc wia off) [.ref h0, .int p0] kIAE) (hrm : rm.cells = 1 ∧ rm.slots = 6) (hrf : rm.frames ≤ 8 ∧ rm.locals ≤ 130) : kMc l yL_about wsL_about ({ frames := 9, cells := 1, slots := 6, locals := 160 }) dC dI [(cA, .int), (cL, .long)] (wX0 cA h0 q0 q1 q2 q3 q4 q5 w ce nm tl tc tw T n z wtc wia off ++ wO cL o0 fo) [.ref h0, .int p0, .ref o0] (nI 1) (wX0 cA h0 q0 q1 q2 q3 q4 q5 w ce nm tl tc tw T n z wtc wia off ++ wO cL o0 fo) := by
  refine kc_of (cc := cL_about) (maxL := 4) (ret := some .int) (by decide) rfl (Nat.le_of_ble_eq_true rfl) ?_
  intro p e s m below meth c A ls hx hb hml hr hts hown hlocks hA hP hK hD hS hZ hN hxt hl
  have hl : lv_has ls 4 [(0, .ref h0), (1, .int p0), (2, .ref o0)] := hl
  refine lv_aload_n hx hb dL_about_0 rfl (lv_at hl 2 rfl) ?_
  refine lv_iconst (v := (nI 0)) hx hb dL_about_1 (by decide) ?_
  refine lv_aload_n hx hb dL_about_2 rfl (lv_at hl 0 rfl) ?_
  refine lv_iload_n hx hb dL_about_3 rfl (lv_at hl 1 rfl) ?_
  refine kx_call (Xr := wO cL o0 fo) (n := 1) hM hx hb hml hown hts gL_about_X0_about rfl hrm ⟨rfl, by decide +kernel⟩ rfl ⟨Nat.succ_le_succ hrf.1, Nat.le_trans (Nat.add_le_add_left hrf.2 _) (Nat.le_of_ble_eq_true rfl)⟩ hK hP hD hS hA hZ [0] [0, 1, 2, 3, 4, 5, 6] [7] rfl rfl rfl (by decide) (by decide) (q0 := 0) rfl rfl rfl (by decide) hl.1 rfl (Nat.le_of_ble_eq_true rfl) dL_about_4 ⟨Nat.le_of_ble_eq_true rfl, Nat.le_of_ble_eq_true rfl⟩ (fun ce9 q9 H locs hP hD hS hce hcv hcl => ?_)
  have hP := hP.sub (ws' := wX0 cA h0 q0 q1 q2 q3 q4 q5 w ce nm tl tc tw T n z wtc wia off ++ wO cL o0 fo) [1, 2, 3, 4, 5, 6, 7, 0] rfl
  have hD := hD.sub (ws' := wX0 cA h0 q0 q1 q2 q3 q4 q5 w ce nm tl tc tw T n z wtc wia off ++ wO cL o0 fo) [1, 2, 3, 4, 5, 6, 7, 0] (by decide) rfl
  refine vx_catch (own := RL) (name := kIAE) (E := kIAE) hown [] ⟨0, 9, 12, 19⟩ [] (by rw [hxt]; rfl) (fun z hz => by simp at hz) (by decide) (by decide) (hts (.classLink RL 19 kIAE) (by decide +kernel)) (va_Nw.use rfl (hZ.2.2.2.1 _ List.mem_cons_self)) hce hcv hcl ?_
  refine lv_astore_n (lv' := [(3, .ref q9), (0, .ref h0), (1, .int p0), (2, .ref o0)]) hx hb dL_about_12 rfl hl (by decide) rfl (fun ls hl => ?_)
  refine lv_iconst (v := (nI 1)) hx hb dL_about_13 (by decide) ?_
  exact kc_ret hx hb hr hlocks hP hK hD hS ⟨Nat.le_of_ble_eq_true rfl, Nat.le_of_ble_eq_true rfl⟩ dL_about_14 rfl rfl
