/-! one call: the class and the reference answer alike -/
set_option maxHeartbeats 4000000 in
set_option maxRecDepth 100000 in
theorem s_begin (l : Launch) (hl0 : l.stackTraces = false) (dC : Nat → ClassId) (dI : Nat → Nat → Nat) (cA cL : ClassId) (h0 q0 q1 q2 q3 q4 q5 o0 g0 r1 r2 r3 r4 r5 : Nat) (fo : Nat → Int64) (w ce nm tl tc tw we wr : Nat → Int32) (T n z : Nat) (wtc wia off cd : Int32)  (hR : kR ce nm T n z tl tc tw we wr) : kSt l dC dI cA cL h0 q0 q1 q2 q3 q4 q5 o0 g0 r1 r2 r3 r4 r5 yL_begin wsL_begin yX1_begin wsX1_begin [] fo w ce nm tl tc tw we wr T n z wtc wia off cd := by
  have hT8 : T ≤ 8 := hR.1.1
  have hn := kR_88 hR
  have hz : z ≤ 60 := hR.2.1
  by_cases ho : off = 0
  · by_cases hT : T = 8
    · exact ⟨1, _, _, _, _, _, _, _, _, _, _, _, _, _, _, _, _, _, by decide, (cL_begin_xISE (cL := cL) (o0 := o0) (fo := fo) (hM := (c_X0_begin_x2 l hl0 dC dI cA h0 q0 q1 q2 q3 q4 q5 w ce nm tl tc tw T n z wtc wia off  ho hT)) (hrm := ⟨rfl, rfl⟩) (hrf := ⟨Nat.le_of_ble_eq_true rfl, Nat.le_of_ble_eq_true rfl⟩)), (c_X1_begin_x l dC dI cA g0 r1 r2 r3 r4 r5 ce w we wr nm n T cd off wtc wia  (Or.inr hT) hT8), ⟨rfl, rfl, Nat.le_of_ble_eq_true rfl, Nat.le_of_ble_eq_true rfl⟩, fun h => absurd h (by decide), hR⟩
    · have hTl : T < 8 := by omega
      have hb := kN_bound hR.1
      exact ⟨0, _, _, _, _, _, _, _, _, _, _, _, _, _, _, _, _, _, by decide, (cL_begin_ok (cL := cL) (o0 := o0) (fo := fo) (hM := (c_X0_begin l dC dI cA h0 q0 q1 q2 q3 q4 q5 w ce nm tl tc tw T n z wtc wia off  ho hTl (by omega))) (hrm := ⟨rfl, rfl⟩) (hrf := ⟨Nat.le_of_ble_eq_true rfl, Nat.le_of_ble_eq_true rfl⟩)), (c_X1_begin l dC dI cA g0 r1 r2 r3 r4 r5 ce w we wr nm n T cd off wtc wia  ho hTl (by omega)), ⟨rfl, rfl, Nat.le_of_ble_eq_true rfl, Nat.le_of_ble_eq_true rfl⟩, fun _ => ko_0 _ _, ⟨kN_begin hR.1 hTl, kT_open hR.2⟩⟩
  · exact ⟨1, _, _, _, _, _, _, _, _, _, _, _, _, _, _, _, _, _, by decide, (cL_begin_xISE (cL := cL) (o0 := o0) (fo := fo) (hM := (c_X0_begin_x1 l hl0 dC dI cA h0 q0 q1 q2 q3 q4 q5 w ce nm tl tc tw T n z wtc wia off  ho)) (hrm := ⟨rfl, rfl⟩) (hrf := ⟨Nat.le_of_ble_eq_true rfl, Nat.le_of_ble_eq_true rfl⟩)), (c_X1_begin_x l dC dI cA g0 r1 r2 r3 r4 r5 ce w we wr nm n T cd off wtc wia  (Or.inl ho) hT8), ⟨rfl, rfl, Nat.le_of_ble_eq_true rfl, Nat.le_of_ble_eq_true rfl⟩, fun h => absurd h (by decide), hR⟩
set_option maxHeartbeats 4000000 in
set_option maxRecDepth 100000 in
theorem s_write (l : Launch) (hl0 : l.stackTraces = false) (dC : Nat → ClassId) (dI : Nat → Nat → Nat) (cA cL : ClassId) (h0 q0 q1 q2 q3 q4 q5 o0 g0 r1 r2 r3 r4 r5 : Nat) (fo : Nat → Int64) (w ce nm tl tc tw we wr : Nat → Int32) (T n z : Nat) (wtc wia off cd : Int32) (p0 p1 : Int32) (hR : kR ce nm T n z tl tc tw we wr) : kSt l dC dI cA cL h0 q0 q1 q2 q3 q4 q5 o0 g0 r1 r2 r3 r4 r5 yL_write wsL_write yX1_write wsX1_write [.int p0, .int p1] fo w ce nm tl tc tw we wr T n z wtc wia off cd := by
  have hT8 : T ≤ 8 := hR.1.1
  have hn := kR_88 hR
  have hz : z ≤ 60 := hR.2.1
  by_cases hcx : kx_isCell p0 = 0
  · exact ⟨1, _, _, _, _, _, _, _, _, _, _, _, _, _, _, _, _, _, by decide, (cL_write_xIAE (cL := cL) (o0 := o0) (fo := fo) (hM := (c_X0_write_xa l hl0 dC dI cA h0 q0 q1 q2 q3 q4 q5 w ce nm tl tc tw T n z wtc wia off p0 p1 hcx)) (hrm := ⟨rfl, rfl⟩) (hrf := ⟨Nat.le_of_ble_eq_true rfl, Nat.le_of_ble_eq_true rfl⟩)), (c_X1_write_a l dC dI cA g0 r1 r2 r3 r4 r5 ce w we wr nm n T cd off wtc wia p0 p1 hcx), ⟨rfl, rfl, Nat.le_of_ble_eq_true rfl, Nat.le_of_ble_eq_true rfl⟩, fun h => absurd h (by decide), hR⟩
  · obtain ⟨cell, hc, rfl⟩ := kx_isCell_of hcx
    by_cases hx9 : ¬ off = 0 ∨ T = 0
    · exact ⟨2, _, _, _, _, _, _, _, _, _, _, _, _, _, _, _, _, _, by decide, (cL_write_xISE (cL := cL) (o0 := o0) (fo := fo) (hM := (c_X0_write_xb l hl0 dC dI cA h0 q0 q1 q2 q3 q4 q5 w ce nm tl tc tw T n z wtc wia off cell p1 hc hx9)) (hrm := ⟨rfl, rfl⟩) (hrf := ⟨Nat.le_of_ble_eq_true rfl, Nat.le_of_ble_eq_true rfl⟩)), (c_X1_write_b l dC dI cA g0 r1 r2 r3 r4 r5 ce w we wr nm n T cd off wtc wia cell p1 hc hx9 hT8), ⟨rfl, rfl, Nat.le_of_ble_eq_true rfl, Nat.le_of_ble_eq_true rfl⟩, fun h => absurd h (by decide), hR⟩
    · skip
      have ho : off = 0 := Classical.not_not.mp (fun q => hx9 (Or.inl q))
      have hT : 0 < T := Nat.pos_of_ne_zero (fun q => hx9 (Or.inr q))
      have hn1 := kN_pos hR.1 hT
      have hj := kN_inn hR.1 hn1
      have hjn := kx_inn_le nm n
      have hmk := kT_mask hR.2 hn (i := n - 1) (by omega)
      have hml := mo_b_le (wr (n - 1)) cell
      have hlen := kT_len hR.2
      by_cases hm : mo_b (wr (n - 1)) cell = 0
      · have hh : kx_holds (kx_tc tl tc (nI (n - 1)) z) (nI cell) = 0 := by rw [hmk]; exact (mb_holds0 _ hc).mpr hm
        by_cases h60 : z = 60
        · exact ⟨2, _, _, _, _, _, _, _, _, _, _, _, _, _, _, _, _, _, by decide, (cL_write_xISE (cL := cL) (o0 := o0) (fo := fo) (hM := (c_X0_write_xc l hl0 dC dI cA h0 q0 q1 q2 q3 q4 q5 w ce nm tl tc tw T n z wtc wia off cell p1 hc ho hT hT8 hz hn1 hn hh h60)) (hrm := ⟨rfl, rfl⟩) (hrf := ⟨Nat.le_of_ble_eq_true rfl, Nat.le_of_ble_eq_true rfl⟩)), (c_X1_write_c l dC dI cA g0 r1 r2 r3 r4 r5 ce w we wr nm n T cd off wtc wia cell p1 hc ho hT hT8 hn hn1 hm (by omega)), ⟨rfl, rfl, Nat.le_of_ble_eq_true rfl, Nat.le_of_ble_eq_true rfl⟩, fun h => absurd h (by decide), hR⟩
        · exact ⟨0, _, _, _, _, _, _, _, _, _, _, _, _, _, _, _, _, _, by decide, (cL_write_ok (cL := cL) (o0 := o0) (fo := fo) (hM := (c_X0_write_u l dC dI cA h0 q0 q1 q2 q3 q4 q5 w ce nm tl tc tw T n z wtc wia off cell p1 hc ho hT hT8 hz hn1 hn hh (by omega))) (hrm := ⟨rfl, rfl⟩) (hrf := ⟨Nat.le_of_ble_eq_true rfl, Nat.le_of_ble_eq_true rfl⟩)), (c_X1_write l dC dI cA g0 r1 r2 r3 r4 r5 ce w we wr nm n T cd off wtc wia cell p1 hc ho hT hT8 hn hn1 (Or.inr (by omega))), ⟨rfl, rfl, Nat.le_of_ble_eq_true rfl, Nat.le_of_ble_eq_true rfl⟩, fun _ => ko_0 _ _, ⟨hR.1, kT_wu hR.2 hc hm hn1 (by omega)⟩⟩
      · have hh : ¬ kx_holds (kx_tc tl tc (nI (n - 1)) z) (nI cell) = 0 := by rw [hmk]; exact fun q => hm ((mb_holds0 _ hc).mp q)
        exact ⟨0, _, _, _, _, _, _, _, _, _, _, _, _, _, _, _, _, _, by decide, (cL_write_ok (cL := cL) (o0 := o0) (fo := fo) (hM := (c_X0_write_t l dC dI cA h0 q0 q1 q2 q3 q4 q5 w ce nm tl tc tw T n z wtc wia off cell p1 hc ho hT hT8 hz hn1 hn hh)) (hrm := ⟨rfl, rfl⟩) (hrf := ⟨Nat.le_of_ble_eq_true rfl, Nat.le_of_ble_eq_true rfl⟩)), (c_X1_write l dC dI cA g0 r1 r2 r3 r4 r5 ce w we wr nm n T cd off wtc wia cell p1 hc ho hT hT8 hn hn1 (Or.inl (by omega))), ⟨rfl, rfl, Nat.le_of_ble_eq_true rfl, Nat.le_of_ble_eq_true rfl⟩, fun _ => ko_0 _ _, ⟨hR.1, kT_wt hR.2 hc (by omega) hn1⟩⟩
set_option maxHeartbeats 4000000 in
set_option maxRecDepth 100000 in
theorem s_read (l : Launch) (hl0 : l.stackTraces = false) (dC : Nat → ClassId) (dI : Nat → Nat → Nat) (cA cL : ClassId) (h0 q0 q1 q2 q3 q4 q5 o0 g0 r1 r2 r3 r4 r5 : Nat) (fo : Nat → Int64) (w ce nm tl tc tw we wr : Nat → Int32) (T n z : Nat) (wtc wia off cd : Int32) (p0 : Int32) (hR : kR ce nm T n z tl tc tw we wr) : kSt l dC dI cA cL h0 q0 q1 q2 q3 q4 q5 o0 g0 r1 r2 r3 r4 r5 yL_read wsL_read yX1_read wsX1_read [.int p0] fo w ce nm tl tc tw we wr T n z wtc wia off cd := by
  have hT8 : T ≤ 8 := hR.1.1
  have hn := kR_88 hR
  have hz : z ≤ 60 := hR.2.1
  by_cases hcx : kx_isCell p0 = 0
  · exact ⟨1, _, _, _, _, _, _, _, _, _, _, _, _, _, _, _, _, _, by decide, (cL_read_xIAE (cL := cL) (o0 := o0) (fo := fo) (hM := (c_X0_read_xa l hl0 dC dI cA h0 q0 q1 q2 q3 q4 q5 w ce nm tl tc tw T n z wtc wia off p0 hcx)) (hrm := ⟨rfl, rfl⟩) (hrf := ⟨Nat.le_of_ble_eq_true rfl, Nat.le_of_ble_eq_true rfl⟩)), (c_X1_read_a l dC dI cA g0 r1 r2 r3 r4 r5 ce w we wr nm n T cd off wtc wia p0 hcx), ⟨rfl, rfl, Nat.le_of_ble_eq_true rfl, Nat.le_of_ble_eq_true rfl⟩, fun h => absurd h (by decide), hR⟩
  · obtain ⟨cell, hc, rfl⟩ := kx_isCell_of hcx
    by_cases ho : off = 0
    · exact ⟨0, _, _, _, _, _, _, _, _, _, _, _, _, _, _, _, _, _, by decide, (cL_read_ok (cL := cL) (o0 := o0) (fo := fo) (hM := (c_X0_read l dC dI cA h0 q0 q1 q2 q3 q4 q5 w ce nm tl tc tw T n z wtc wia off cell hc ho)) (hrm := ⟨rfl, rfl⟩) (hrf := ⟨Nat.le_of_ble_eq_true rfl, Nat.le_of_ble_eq_true rfl⟩)), (c_X1_read l dC dI cA g0 r1 r2 r3 r4 r5 ce w we wr nm n T cd off wtc wia cell hc ho), ⟨rfl, rfl, Nat.le_of_ble_eq_true rfl, Nat.le_of_ble_eq_true rfl⟩, fun _ => ko_0 _ _, hR⟩
    · exact ⟨2, _, _, _, _, _, _, _, _, _, _, _, _, _, _, _, _, _, by decide, (cL_read_xISE (cL := cL) (o0 := o0) (fo := fo) (hM := (c_X0_read_xb l hl0 dC dI cA h0 q0 q1 q2 q3 q4 q5 w ce nm tl tc tw T n z wtc wia off cell hc ho)) (hrm := ⟨rfl, rfl⟩) (hrf := ⟨Nat.le_of_ble_eq_true rfl, Nat.le_of_ble_eq_true rfl⟩)), (c_X1_read_b l dC dI cA g0 r1 r2 r3 r4 r5 ce w we wr nm n T cd off wtc wia cell hc ho), ⟨rfl, rfl, Nat.le_of_ble_eq_true rfl, Nat.le_of_ble_eq_true rfl⟩, fun h => absurd h (by decide), hR⟩
set_option maxHeartbeats 4000000 in
set_option maxRecDepth 100000 in
theorem s_commit (l : Launch) (hl0 : l.stackTraces = false) (dC : Nat → ClassId) (dI : Nat → Nat → Nat) (cA cL : ClassId) (h0 q0 q1 q2 q3 q4 q5 o0 g0 r1 r2 r3 r4 r5 : Nat) (fo : Nat → Int64) (w ce nm tl tc tw we wr : Nat → Int32) (T n z : Nat) (wtc wia off cd : Int32)  (hR : kR ce nm T n z tl tc tw we wr) : kSt l dC dI cA cL h0 q0 q1 q2 q3 q4 q5 o0 g0 r1 r2 r3 r4 r5 yL_commit wsL_commit yX1_commit wsX1_commit [] fo w ce nm tl tc tw we wr T n z wtc wia off cd := by
  have hT8 : T ≤ 8 := hR.1.1
  have hn := kR_88 hR
  have hz : z ≤ 60 := hR.2.1
  by_cases hx9 : ¬ off = 0 ∨ T = 0
  · exact ⟨1, _, _, _, _, _, _, _, _, _, _, _, _, _, _, _, _, _, by decide, (cL_commit_xISE (cL := cL) (o0 := o0) (fo := fo) (hM := (c_X0_commit_x l hl0 dC dI cA h0 q0 q1 q2 q3 q4 q5 w ce nm tl tc tw T n z wtc wia off  hx9)) (hrm := ⟨rfl, rfl⟩) (hrf := ⟨Nat.le_of_ble_eq_true rfl, Nat.le_of_ble_eq_true rfl⟩)), (c_X1_commit_x l dC dI cA g0 r1 r2 r3 r4 r5 ce w we wr nm n T cd off wtc wia  hx9 hT8), ⟨rfl, rfl, Nat.le_of_ble_eq_true rfl, Nat.le_of_ble_eq_true rfl⟩, fun h => absurd h (by decide), hR⟩
  · skip
    have ho : off = 0 := Classical.not_not.mp (fun q => hx9 (Or.inl q))
    have hT : 0 < T := Nat.pos_of_ne_zero (fun q => hx9 (Or.inr q))
    have hn1 := kN_pos hR.1 hT
    have hj := kN_inn hR.1 hn1
    have hjn := kx_inn_le nm n
    obtain ⟨hcm1, hcm2⟩ := kT_cm (kx_inn nm n) hj n (nm, tl, tc, tw, n, z) wr rfl hn hjn hR.2
    by_cases hT1 : T = 1
    · have hj1 : kx_inn nm n = 1 := kN_inn1 (by rw [← hT1]; exact hR.1)
      have hmk := kT_mask hcm2 (by omega) (i := 0) (by omega)
      have hc := (cL_commit_ok (cL := cL) (o0 := o0) (fo := fo) (hM := (c_X0_commit_o l dC dI cA h0 q0 q1 q2 q3 q4 q5 w ce nm tl tc tw T n z wtc wia off  ho hT8 hz hn hj hT1)) (hrm := ⟨rfl, rfl⟩) (hrf := ⟨Nat.le_of_ble_eq_true rfl, Nat.le_of_ble_eq_true rfl⟩))
      rw [hcm1, hmk] at hc
      exact ⟨0, _, _, _, _, _, _, _, _, _, _, _, _, _, _, _, _, _, by decide, hc, (c_X1_commit_o l dC dI cA g0 r1 r2 r3 r4 r5 ce w we wr nm n T cd off wtc wia  ho hT8 hn hj hT1), ⟨rfl, rfl, Nat.le_of_ble_eq_true rfl, Nat.le_of_ble_eq_true rfl⟩, fun _ => ko_0 _ _, kR_0 _ _ _ _ _ _ _⟩
    · have hj2 := kN_inn2 hR.1 (by omega)
      have hcn := kx_cm_n (kx_inn nm n) hj n (nm, tl, tc, tw, n, z) rfl hjn
      have hc := (cL_commit_ok (cL := cL) (o0 := o0) (fo := fo) (hM := (c_X0_commit_i l dC dI cA h0 q0 q1 q2 q3 q4 q5 w ce nm tl tc tw T n z wtc wia off  ho hT8 hz hn hj (by omega) hj2)) (hrm := ⟨rfl, rfl⟩) (hrf := ⟨Nat.le_of_ble_eq_true rfl, Nat.le_of_ble_eq_true rfl⟩))
      generalize kx_cm (kx_inn nm n) n (nm, tl, tc, tw, n, z) = S at hcm1 hcm2 hcn hc
      obtain ⟨a1, a2, a3, a4, a5, a6⟩ := S
      obtain rfl : a1 = nm := hcm1
      obtain rfl : a5 = kx_inn a1 n := hcn
      have hf := kT_fold (nm := a1) hcm2 (by omega) (lev := kx_inn a1 n - 1) (by omega) (by omega)
      have hN := kN_pop hR.1 hT
      have hq := cw_1 a1 hj
      exact ⟨0, _, _, _, _, _, _, _, _, _, _, _, _, _, _, _, _, _, by decide, hc, (c_X1_commit_i l dC dI cA g0 r1 r2 r3 r4 r5 ce w we wr a1 n T cd off wtc wia  ho hT8 hn hj (by omega) hj2), ⟨rfl, rfl, Nat.le_of_ble_eq_true rfl, Nat.le_of_ble_eq_true rfl⟩, fun _ => ko_0 _ _, ⟨(by have h9 : kx_sh a1 (kx_inn a1 n - 1) (kx_inn a1 n) = a1 := hq; show kN (kx_sh a1 (kx_inn a1 n - 1) (kx_inn a1 n)) (T - 1) (kx_inn a1 n - 1); rw [h9]; exact hN), hf⟩⟩
set_option maxHeartbeats 4000000 in
set_option maxRecDepth 100000 in
theorem s_abort (l : Launch) (hl0 : l.stackTraces = false) (dC : Nat → ClassId) (dI : Nat → Nat → Nat) (cA cL : ClassId) (h0 q0 q1 q2 q3 q4 q5 o0 g0 r1 r2 r3 r4 r5 : Nat) (fo : Nat → Int64) (w ce nm tl tc tw we wr : Nat → Int32) (T n z : Nat) (wtc wia off cd : Int32)  (hR : kR ce nm T n z tl tc tw we wr) : kSt l dC dI cA cL h0 q0 q1 q2 q3 q4 q5 o0 g0 r1 r2 r3 r4 r5 yL_abort wsL_abort yX1_abort wsX1_abort [] fo w ce nm tl tc tw we wr T n z wtc wia off cd := by
  have hT8 : T ≤ 8 := hR.1.1
  have hn := kR_88 hR
  have hz : z ≤ 60 := hR.2.1
  by_cases hx9 : ¬ off = 0 ∨ T = 0
  · exact ⟨1, _, _, _, _, _, _, _, _, _, _, _, _, _, _, _, _, _, by decide, (cL_abort_xISE (cL := cL) (o0 := o0) (fo := fo) (hM := (c_X0_abort_x l hl0 dC dI cA h0 q0 q1 q2 q3 q4 q5 w ce nm tl tc tw T n z wtc wia off  hx9)) (hrm := ⟨rfl, rfl⟩) (hrf := ⟨Nat.le_of_ble_eq_true rfl, Nat.le_of_ble_eq_true rfl⟩)), (c_X1_abort_x l dC dI cA g0 r1 r2 r3 r4 r5 ce w we wr nm n T cd off wtc wia  hx9 hT8), ⟨rfl, rfl, Nat.le_of_ble_eq_true rfl, Nat.le_of_ble_eq_true rfl⟩, fun h => absurd h (by decide), hR⟩
  · skip
    have ho : off = 0 := Classical.not_not.mp (fun q => hx9 (Or.inl q))
    have hT : 0 < T := Nat.pos_of_ne_zero (fun q => hx9 (Or.inr q))
    have hn1 := kN_pos hR.1 hT
    have hj := kN_inn hR.1 hn1
    have hjn := kx_inn_le nm n
    obtain ⟨b1, b2, b3⟩ := kT_back hR.2 hn (lev := kx_inn nm n - 1) (by omega)
    have hc := (cL_abort_ok (cL := cL) (o0 := o0) (fo := fo) (hM := (c_X0_abort l dC dI cA h0 q0 q1 q2 q3 q4 q5 w ce nm tl tc tw T n z wtc wia off  ho hT hT8 hz hn hj (kT_tc hR.2))) (hrm := ⟨rfl, rfl⟩) (hrf := ⟨Nat.le_of_ble_eq_true rfl, Nat.le_of_ble_eq_true rfl⟩))
    rw [b1, b2] at hc
    exact ⟨0, _, _, _, _, _, _, _, _, _, _, _, _, _, _, _, _, _, by decide, hc, (c_X1_abort l dC dI cA g0 r1 r2 r3 r4 r5 ce w we wr nm n T cd off wtc wia  ho hT hT8 hn hj), ⟨rfl, rfl, Nat.le_of_ble_eq_true rfl, Nat.le_of_ble_eq_true rfl⟩, fun _ => ko_0 _ _, ⟨kN_pop hR.1 hT, b3⟩⟩
set_option maxHeartbeats 4000000 in
set_option maxRecDepth 100000 in
theorem s_point (l : Launch) (hl0 : l.stackTraces = false) (dC : Nat → ClassId) (dI : Nat → Nat → Nat) (cA cL : ClassId) (h0 q0 q1 q2 q3 q4 q5 o0 g0 r1 r2 r3 r4 r5 : Nat) (fo : Nat → Int64) (w ce nm tl tc tw we wr : Nat → Int32) (T n z : Nat) (wtc wia off cd : Int32) (p0 : Int32) (hR : kR ce nm T n z tl tc tw we wr) : kSt l dC dI cA cL h0 q0 q1 q2 q3 q4 q5 o0 g0 r1 r2 r3 r4 r5 yL_point wsL_point yX1_point wsX1_point [.int p0] fo w ce nm tl tc tw we wr T n z wtc wia off cd := by
  have hT8 : T ≤ 8 := hR.1.1
  have hn := kR_88 hR
  have hz : z ≤ 60 := hR.2.1
  by_cases hw : p0 < 0 ∨ ¬ p0 < nI 10
  · exact ⟨1, _, _, _, _, _, _, _, _, _, _, _, _, _, _, _, _, _, by decide, (cL_point_xIAE (cL := cL) (o0 := o0) (fo := fo) (hM := (c_X0_point_xa l hl0 dC dI cA h0 q0 q1 q2 q3 q4 q5 w ce nm tl tc tw T n z wtc wia off p0 hw)) (hrm := ⟨rfl, rfl⟩) (hrf := ⟨Nat.le_of_ble_eq_true rfl, Nat.le_of_ble_eq_true rfl⟩)), (c_X1_point_a l dC dI cA g0 r1 r2 r3 r4 r5 ce w we wr nm n T cd off wtc wia p0 hw), ⟨rfl, rfl, Nat.le_of_ble_eq_true rfl, Nat.le_of_ble_eq_true rfl⟩, fun h => absurd h (by decide), hR⟩
  · obtain ⟨name, hnm, rfl⟩ := kt_of (by decide) hw
    by_cases hx9 : ¬ off = 0 ∨ T = 0
    · exact ⟨2, _, _, _, _, _, _, _, _, _, _, _, _, _, _, _, _, _, by decide, (cL_point_xISE (cL := cL) (o0 := o0) (fo := fo) (hM := (c_X0_point_xb l hl0 dC dI cA h0 q0 q1 q2 q3 q4 q5 w ce nm tl tc tw T n z wtc wia off name hnm hx9)) (hrm := ⟨rfl, rfl⟩) (hrf := ⟨Nat.le_of_ble_eq_true rfl, Nat.le_of_ble_eq_true rfl⟩)), (c_X1_point_b l dC dI cA g0 r1 r2 r3 r4 r5 ce w we wr nm n T cd off wtc wia name hnm hx9 hT8), ⟨rfl, rfl, Nat.le_of_ble_eq_true rfl, Nat.le_of_ble_eq_true rfl⟩, fun h => absurd h (by decide), hR⟩
    · skip
      have ho : off = 0 := Classical.not_not.mp (fun q => hx9 (Or.inl q))
      have hT : 0 < T := Nat.pos_of_ne_zero (fun q => hx9 (Or.inr q))
      have hn1 := kN_pos hR.1 hT
      have hj := kN_inn hR.1 hn1
      have hjn := kx_inn_le nm n
      have hple := kx_pl_le nm (nI name) (kx_inn nm n) n
      by_cases hpl : kx_pl nm (nI name) (kx_inn nm n) n = 0
      · have hN := kN_push hR.1 hn1 hnm (kp_none nm _ _ n hpl)
        have hb := kN_88 hN
        exact ⟨0, _, _, _, _, _, _, _, _, _, _, _, _, _, _, _, _, _, by decide, (cL_point_ok (cL := cL) (o0 := o0) (fo := fo) (hM := (c_X0_point_n l dC dI cA h0 q0 q1 q2 q3 q4 q5 w ce nm tl tc tw T n z wtc wia off name hnm ho hT hT8 hz (by omega) hpl)) (hrm := ⟨rfl, rfl⟩) (hrf := ⟨Nat.le_of_ble_eq_true rfl, Nat.le_of_ble_eq_true rfl⟩)), (c_X1_point_n l dC dI cA g0 r1 r2 r3 r4 r5 ce w we wr nm n T cd off wtc wia name hnm ho hT hT8 (by omega) hj hpl (kN_inn hN (by omega))), ⟨rfl, rfl, Nat.le_of_ble_eq_true rfl, Nat.le_of_ble_eq_true rfl⟩, fun _ => ko_0 _ _, ⟨hN, kT_open hR.2⟩⟩
      · obtain ⟨k1, k2⟩ := kp_some nm (nI name) _ n (Nat.pos_of_ne_zero hpl)
        have hD := kN_del hR.1 (lev := kx_pl nm (nI name) (kx_inn nm n) n - 1) (by omega) (by omega) (by omega)
        have hN := kN_push hD (by omega) hnm (by have h9 := kn_gone hR.1 (lev := kx_pl nm (nI name) (kx_inn nm n) n - 1) (by omega) (by omega); rw [k2] at h9; exact h9)
        exact ⟨0, _, _, _, _, _, _, _, _, _, _, _, _, _, _, _, _, _, by decide, (cL_point_ok (cL := cL) (o0 := o0) (fo := fo) (hM := (c_X0_point_f l dC dI cA h0 q0 q1 q2 q3 q4 q5 w ce nm tl tc tw T n z wtc wia off name hnm ho hT hT8 hz hn (by omega))) (hrm := ⟨rfl, rfl⟩) (hrf := ⟨Nat.le_of_ble_eq_true rfl, Nat.le_of_ble_eq_true rfl⟩)), (c_X1_point_f l dC dI cA g0 r1 r2 r3 r4 r5 ce w we wr nm n T cd off wtc wia name hnm ho hT hT8 hn hj (by omega) (kN_inn hN (by omega))), ⟨rfl, rfl, Nat.le_of_ble_eq_true rfl, Nat.le_of_ble_eq_true rfl⟩, fun _ => ko_0 _ _, ⟨hN, kT_open (kT_fold (nm := nm) hR.2 hn (by omega) (by omega))⟩⟩
set_option maxHeartbeats 4000000 in
set_option maxRecDepth 100000 in
theorem s_back (l : Launch) (hl0 : l.stackTraces = false) (dC : Nat → ClassId) (dI : Nat → Nat → Nat) (cA cL : ClassId) (h0 q0 q1 q2 q3 q4 q5 o0 g0 r1 r2 r3 r4 r5 : Nat) (fo : Nat → Int64) (w ce nm tl tc tw we wr : Nat → Int32) (T n z : Nat) (wtc wia off cd : Int32) (p0 : Int32) (hR : kR ce nm T n z tl tc tw we wr) : kSt l dC dI cA cL h0 q0 q1 q2 q3 q4 q5 o0 g0 r1 r2 r3 r4 r5 yL_back wsL_back yX1_back wsX1_back [.int p0] fo w ce nm tl tc tw we wr T n z wtc wia off cd := by
  have hT8 : T ≤ 8 := hR.1.1
  have hn := kR_88 hR
  have hz : z ≤ 60 := hR.2.1
  by_cases hw : p0 < 0 ∨ ¬ p0 < nI 10
  · exact ⟨1, _, _, _, _, _, _, _, _, _, _, _, _, _, _, _, _, _, by decide, (cL_back_xIAE (cL := cL) (o0 := o0) (fo := fo) (hM := (c_X0_back_xa l hl0 dC dI cA h0 q0 q1 q2 q3 q4 q5 w ce nm tl tc tw T n z wtc wia off p0 hw)) (hrm := ⟨rfl, rfl⟩) (hrf := ⟨Nat.le_of_ble_eq_true rfl, Nat.le_of_ble_eq_true rfl⟩)), (c_X1_back_a l dC dI cA g0 r1 r2 r3 r4 r5 ce w we wr nm n T cd off wtc wia p0 hw), ⟨rfl, rfl, Nat.le_of_ble_eq_true rfl, Nat.le_of_ble_eq_true rfl⟩, fun h => absurd h (by decide), hR⟩
  · obtain ⟨name, hnm, rfl⟩ := kt_of (by decide) hw
    by_cases hx9 : ¬ off = 0 ∨ T = 0
    · exact ⟨2, _, _, _, _, _, _, _, _, _, _, _, _, _, _, _, _, _, by decide, (cL_back_xISE (cL := cL) (o0 := o0) (fo := fo) (hM := (c_X0_back_xb l hl0 dC dI cA h0 q0 q1 q2 q3 q4 q5 w ce nm tl tc tw T n z wtc wia off name hnm hx9)) (hrm := ⟨rfl, rfl⟩) (hrf := ⟨Nat.le_of_ble_eq_true rfl, Nat.le_of_ble_eq_true rfl⟩)), (c_X1_back_b l dC dI cA g0 r1 r2 r3 r4 r5 ce w we wr nm n T cd off wtc wia name hnm hx9 hT8), ⟨rfl, rfl, Nat.le_of_ble_eq_true rfl, Nat.le_of_ble_eq_true rfl⟩, fun h => absurd h (by decide), hR⟩
    · skip
      have ho : off = 0 := Classical.not_not.mp (fun q => hx9 (Or.inl q))
      have hT : 0 < T := Nat.pos_of_ne_zero (fun q => hx9 (Or.inr q))
      have hn1 := kN_pos hR.1 hT
      have hj := kN_inn hR.1 hn1
      have hjn := kx_inn_le nm n
      have hple := kx_pl_le nm (nI name) (kx_inn nm n) n
      by_cases hpl : kx_pl nm (nI name) (kx_inn nm n) n = 0
      · exact ⟨1, _, _, _, _, _, _, _, _, _, _, _, _, _, _, _, _, _, by decide, (cL_back_xIAE (cL := cL) (o0 := o0) (fo := fo) (hM := (c_X0_back_xc l hl0 dC dI cA h0 q0 q1 q2 q3 q4 q5 w ce nm tl tc tw T n z wtc wia off name hnm ho hT hT8 hn hpl)) (hrm := ⟨rfl, rfl⟩) (hrf := ⟨Nat.le_of_ble_eq_true rfl, Nat.le_of_ble_eq_true rfl⟩)), (c_X1_back_c l dC dI cA g0 r1 r2 r3 r4 r5 ce w we wr nm n T cd off wtc wia name hnm ho hT hT8 hn hj hpl), ⟨rfl, rfl, Nat.le_of_ble_eq_true rfl, Nat.le_of_ble_eq_true rfl⟩, fun h => absurd h (by decide), hR⟩
      · obtain ⟨k1, k2⟩ := kp_some nm (nI name) _ n (Nat.pos_of_ne_zero hpl)
        obtain ⟨b1, b2, b3⟩ := kT_back hR.2 hn (lev := kx_pl nm (nI name) (kx_inn nm n) n - 1) (by omega)
        have hc := (cL_back_ok (cL := cL) (o0 := o0) (fo := fo) (hM := (c_X0_back l dC dI cA h0 q0 q1 q2 q3 q4 q5 w ce nm tl tc tw T n z wtc wia off name hnm ho hT hT8 hz hn (kT_tc hR.2) (by omega))) (hrm := ⟨rfl, rfl⟩) (hrf := ⟨Nat.le_of_ble_eq_true rfl, Nat.le_of_ble_eq_true rfl⟩))
        rw [b1, b2, upd_self nm _ k2] at hc
        exact ⟨0, _, _, _, _, _, _, _, _, _, _, _, _, _, _, _, _, _, by decide, hc, (c_X1_back l dC dI cA g0 r1 r2 r3 r4 r5 ce w we wr nm n T cd off wtc wia name hnm ho hT hT8 hn hj (by omega)), ⟨rfl, rfl, Nat.le_of_ble_eq_true rfl, Nat.le_of_ble_eq_true rfl⟩, fun _ => ko_0 _ _, ⟨kN_back hR.1 (i := kx_pl nm (nI name) (kx_inn nm n) n - 1 + 1) (by omega) (by omega), kT_stay b3⟩⟩
set_option maxHeartbeats 4000000 in
set_option maxRecDepth 100000 in
theorem s_release (l : Launch) (hl0 : l.stackTraces = false) (dC : Nat → ClassId) (dI : Nat → Nat → Nat) (cA cL : ClassId) (h0 q0 q1 q2 q3 q4 q5 o0 g0 r1 r2 r3 r4 r5 : Nat) (fo : Nat → Int64) (w ce nm tl tc tw we wr : Nat → Int32) (T n z : Nat) (wtc wia off cd : Int32) (p0 : Int32) (hR : kR ce nm T n z tl tc tw we wr) : kSt l dC dI cA cL h0 q0 q1 q2 q3 q4 q5 o0 g0 r1 r2 r3 r4 r5 yL_release wsL_release yX1_release wsX1_release [.int p0] fo w ce nm tl tc tw we wr T n z wtc wia off cd := by
  have hT8 : T ≤ 8 := hR.1.1
  have hn := kR_88 hR
  have hz : z ≤ 60 := hR.2.1
  by_cases hw : p0 < 0 ∨ ¬ p0 < nI 10
  · exact ⟨1, _, _, _, _, _, _, _, _, _, _, _, _, _, _, _, _, _, by decide, (cL_release_xIAE (cL := cL) (o0 := o0) (fo := fo) (hM := (c_X0_release_xa l hl0 dC dI cA h0 q0 q1 q2 q3 q4 q5 w ce nm tl tc tw T n z wtc wia off p0 hw)) (hrm := ⟨rfl, rfl⟩) (hrf := ⟨Nat.le_of_ble_eq_true rfl, Nat.le_of_ble_eq_true rfl⟩)), (c_X1_release_a l dC dI cA g0 r1 r2 r3 r4 r5 ce w we wr nm n T cd off wtc wia p0 hw), ⟨rfl, rfl, Nat.le_of_ble_eq_true rfl, Nat.le_of_ble_eq_true rfl⟩, fun h => absurd h (by decide), hR⟩
  · obtain ⟨name, hnm, rfl⟩ := kt_of (by decide) hw
    by_cases hx9 : ¬ off = 0 ∨ T = 0
    · exact ⟨2, _, _, _, _, _, _, _, _, _, _, _, _, _, _, _, _, _, by decide, (cL_release_xISE (cL := cL) (o0 := o0) (fo := fo) (hM := (c_X0_release_xb l hl0 dC dI cA h0 q0 q1 q2 q3 q4 q5 w ce nm tl tc tw T n z wtc wia off name hnm hx9)) (hrm := ⟨rfl, rfl⟩) (hrf := ⟨Nat.le_of_ble_eq_true rfl, Nat.le_of_ble_eq_true rfl⟩)), (c_X1_release_b l dC dI cA g0 r1 r2 r3 r4 r5 ce w we wr nm n T cd off wtc wia name hnm hx9 hT8), ⟨rfl, rfl, Nat.le_of_ble_eq_true rfl, Nat.le_of_ble_eq_true rfl⟩, fun h => absurd h (by decide), hR⟩
    · skip
      have ho : off = 0 := Classical.not_not.mp (fun q => hx9 (Or.inl q))
      have hT : 0 < T := Nat.pos_of_ne_zero (fun q => hx9 (Or.inr q))
      have hn1 := kN_pos hR.1 hT
      have hj := kN_inn hR.1 hn1
      have hjn := kx_inn_le nm n
      have hple := kx_pl_le nm (nI name) (kx_inn nm n) n
      by_cases hpl : kx_pl nm (nI name) (kx_inn nm n) n = 0
      · exact ⟨1, _, _, _, _, _, _, _, _, _, _, _, _, _, _, _, _, _, by decide, (cL_release_xIAE (cL := cL) (o0 := o0) (fo := fo) (hM := (c_X0_release_xc l hl0 dC dI cA h0 q0 q1 q2 q3 q4 q5 w ce nm tl tc tw T n z wtc wia off name hnm ho hT hT8 hn hpl)) (hrm := ⟨rfl, rfl⟩) (hrf := ⟨Nat.le_of_ble_eq_true rfl, Nat.le_of_ble_eq_true rfl⟩)), (c_X1_release_c l dC dI cA g0 r1 r2 r3 r4 r5 ce w we wr nm n T cd off wtc wia name hnm ho hT hT8 hn hj hpl), ⟨rfl, rfl, Nat.le_of_ble_eq_true rfl, Nat.le_of_ble_eq_true rfl⟩, fun h => absurd h (by decide), hR⟩
      · obtain ⟨k1, k2⟩ := kp_some nm (nI name) _ n (Nat.pos_of_ne_zero hpl)
        have hD := kN_del hR.1 (lev := kx_pl nm (nI name) (kx_inn nm n) n - 1) (by omega) (by omega) (by omega)
        exact ⟨0, _, _, _, _, _, _, _, _, _, _, _, _, _, _, _, _, _, by decide, (cL_release_ok (cL := cL) (o0 := o0) (fo := fo) (hM := (c_X0_release l dC dI cA h0 q0 q1 q2 q3 q4 q5 w ce nm tl tc tw T n z wtc wia off name hnm ho hT hT8 hz hn (by omega))) (hrm := ⟨rfl, rfl⟩) (hrf := ⟨Nat.le_of_ble_eq_true rfl, Nat.le_of_ble_eq_true rfl⟩)), (c_X1_release l dC dI cA g0 r1 r2 r3 r4 r5 ce w we wr nm n T cd off wtc wia name hnm ho hT hT8 hn hj (by omega) (kN_inn hD (by omega))), ⟨rfl, rfl, Nat.le_of_ble_eq_true rfl, Nat.le_of_ble_eq_true rfl⟩, fun _ => ko_0 _ _, ⟨hD, kT_fold (nm := nm) hR.2 hn (by omega) (by omega)⟩⟩
set_option maxHeartbeats 4000000 in
set_option maxRecDepth 100000 in
theorem s_disk (l : Launch) (hl0 : l.stackTraces = false) (dC : Nat → ClassId) (dI : Nat → Nat → Nat) (cA cL : ClassId) (h0 q0 q1 q2 q3 q4 q5 o0 g0 r1 r2 r3 r4 r5 : Nat) (fo : Nat → Int64) (w ce nm tl tc tw we wr : Nat → Int32) (T n z : Nat) (wtc wia off cd : Int32) (p0 : Int32) (hR : kR ce nm T n z tl tc tw we wr) : kSt l dC dI cA cL h0 q0 q1 q2 q3 q4 q5 o0 g0 r1 r2 r3 r4 r5 yL_disk wsL_disk yX1_disk wsX1_disk [.int p0] fo w ce nm tl tc tw we wr T n z wtc wia off cd := by
  have hT8 : T ≤ 8 := hR.1.1
  have hn := kR_88 hR
  have hz : z ≤ 60 := hR.2.1
  by_cases hw : p0 < 0 ∨ ¬ p0 < nI 98
  · exact ⟨1, _, _, _, _, _, _, _, _, _, _, _, _, _, _, _, _, _, by decide, (cL_disk_xIAE (cL := cL) (o0 := o0) (fo := fo) (hM := (c_X0_disk_x l hl0 dC dI cA h0 q0 q1 q2 q3 q4 q5 w ce nm tl tc tw T n z wtc wia off p0 hw)) (hrm := ⟨rfl, rfl⟩) (hrf := ⟨Nat.le_of_ble_eq_true rfl, Nat.le_of_ble_eq_true rfl⟩)), (c_X1_disk_a l dC dI cA g0 r1 r2 r3 r4 r5 ce w we wr nm n T cd off wtc wia p0 hw), ⟨rfl, rfl, Nat.le_of_ble_eq_true rfl, Nat.le_of_ble_eq_true rfl⟩, fun h => absurd h (by decide), hR⟩
  · obtain ⟨i, hi, rfl⟩ := kt_of (by decide) hw
    exact ⟨0, _, _, _, _, _, _, _, _, _, _, _, _, _, _, _, _, _, by decide, (cL_disk_ok (cL := cL) (o0 := o0) (fo := fo) (hM := (c_X0_disk l dC dI cA h0 q0 q1 q2 q3 q4 q5 w ce nm tl tc tw T n z wtc wia off i hi)) (hrm := ⟨rfl, rfl⟩) (hrf := ⟨Nat.le_of_ble_eq_true rfl, Nat.le_of_ble_eq_true rfl⟩)), (c_X1_disk l dC dI cA g0 r1 r2 r3 r4 r5 ce w we wr nm n T cd off wtc wia i hi), ⟨rfl, rfl, Nat.le_of_ble_eq_true rfl, Nat.le_of_ble_eq_true rfl⟩, fun _ => ko_0 _ _, hR⟩
set_option maxHeartbeats 4000000 in
set_option maxRecDepth 100000 in
theorem s_spoil (l : Launch) (hl0 : l.stackTraces = false) (dC : Nat → ClassId) (dI : Nat → Nat → Nat) (cA cL : ClassId) (h0 q0 q1 q2 q3 q4 q5 o0 g0 r1 r2 r3 r4 r5 : Nat) (fo : Nat → Int64) (w ce nm tl tc tw we wr : Nat → Int32) (T n z : Nat) (wtc wia off cd : Int32) (p0 p1 : Int32) (hR : kR ce nm T n z tl tc tw we wr) : kSt l dC dI cA cL h0 q0 q1 q2 q3 q4 q5 o0 g0 r1 r2 r3 r4 r5 yL_spoil wsL_spoil yX1_spoil wsX1_spoil [.int p0, .int p1] fo w ce nm tl tc tw we wr T n z wtc wia off cd := by
  have hT8 : T ≤ 8 := hR.1.1
  have hn := kR_88 hR
  have hz : z ≤ 60 := hR.2.1
  by_cases hw : p0 < 0 ∨ ¬ p0 < nI 98
  · exact ⟨1, _, _, _, _, _, _, _, _, _, _, _, _, _, _, _, _, _, by decide, (cL_spoil_xIAE (cL := cL) (o0 := o0) (fo := fo) (hM := (c_X0_spoil_x l hl0 dC dI cA h0 q0 q1 q2 q3 q4 q5 w ce nm tl tc tw T n z wtc wia off p0 p1 hw)) (hrm := ⟨rfl, rfl⟩) (hrf := ⟨Nat.le_of_ble_eq_true rfl, Nat.le_of_ble_eq_true rfl⟩)), (c_X1_spoil_a l dC dI cA g0 r1 r2 r3 r4 r5 ce w we wr nm n T cd off wtc wia p0 p1 hw), ⟨rfl, rfl, Nat.le_of_ble_eq_true rfl, Nat.le_of_ble_eq_true rfl⟩, fun h => absurd h (by decide), hR⟩
  · obtain ⟨i, hi, rfl⟩ := kt_of (by decide) hw
    exact ⟨0, _, _, _, _, _, _, _, _, _, _, _, _, _, _, _, _, _, by decide, (cL_spoil_ok (cL := cL) (o0 := o0) (fo := fo) (hM := (c_X0_spoil l dC dI cA h0 q0 q1 q2 q3 q4 q5 w ce nm tl tc tw T n z wtc wia off i p1 hi)) (hrm := ⟨rfl, rfl⟩) (hrf := ⟨Nat.le_of_ble_eq_true rfl, Nat.le_of_ble_eq_true rfl⟩)), (c_X1_spoil l dC dI cA g0 r1 r2 r3 r4 r5 ce w we wr nm n T cd off wtc wia i p1 hi), ⟨rfl, rfl, Nat.le_of_ble_eq_true rfl, Nat.le_of_ble_eq_true rfl⟩, fun _ => ko_0 _ _, hR⟩
set_option maxHeartbeats 4000000 in
set_option maxRecDepth 100000 in
theorem s_level (l : Launch) (hl0 : l.stackTraces = false) (dC : Nat → ClassId) (dI : Nat → Nat → Nat) (cA cL : ClassId) (h0 q0 q1 q2 q3 q4 q5 o0 g0 r1 r2 r3 r4 r5 : Nat) (fo : Nat → Int64) (w ce nm tl tc tw we wr : Nat → Int32) (T n z : Nat) (wtc wia off cd : Int32) (p0 p1 : Int32) (hR : kR ce nm T n z tl tc tw we wr) : kSt l dC dI cA cL h0 q0 q1 q2 q3 q4 q5 o0 g0 r1 r2 r3 r4 r5 yL_level wsL_level yX1_level wsX1_level [.int p0, .int p1] fo w ce nm tl tc tw we wr T n z wtc wia off cd := by
  have hT8 : T ≤ 8 := hR.1.1
  have hn := kR_88 hR
  have hz : z ≤ 60 := hR.2.1
  by_cases hw : p0 < 0 ∨ ¬ p0 < nI n
  · exact ⟨1, _, _, _, _, _, _, _, _, _, _, _, _, _, _, _, _, _, by decide, (cL_level_xIAE (cL := cL) (o0 := o0) (fo := fo) (hM := (c_X0_level_xa l hl0 dC dI cA h0 q0 q1 q2 q3 q4 q5 w ce nm tl tc tw T n z wtc wia off p0 p1 hw)) (hrm := ⟨rfl, rfl⟩) (hrf := ⟨Nat.le_of_ble_eq_true rfl, Nat.le_of_ble_eq_true rfl⟩)), (c_X1_level_a l dC dI cA g0 r1 r2 r3 r4 r5 ce w we wr nm n T cd off wtc wia p0 p1 hn hw), ⟨rfl, rfl, Nat.le_of_ble_eq_true rfl, Nat.le_of_ble_eq_true rfl⟩, fun h => absurd h (by decide), hR⟩
  · obtain ⟨i, hi, rfl⟩ := kt_of (by omega) hw
    by_cases hw0 : p1.toInt = 0
    · obtain rfl : p1 = nI 0 := kt_tI (by decide) hw0
      have hc := (cL_level_ok (cL := cL) (o0 := o0) (fo := fo) (hM := (c_X0_level_0 l dC dI cA h0 q0 q1 q2 q3 q4 q5 w ce nm tl tc tw T n z wtc wia off i hz hn hi)) (hrm := ⟨rfl, rfl⟩) (hrf := ⟨Nat.le_of_ble_eq_true rfl, Nat.le_of_ble_eq_true rfl⟩))
      rw [kT_mask hR.2 hn hi, kx_bc_bits] at hc
      exact ⟨0, _, _, _, _, _, _, _, _, _, _, _, _, _, _, _, _, _, by decide, hc, (c_X1_level_0 l dC dI cA g0 r1 r2 r3 r4 r5 ce w we wr nm n T cd off wtc wia i hn hi), ⟨rfl, rfl, Nat.le_of_ble_eq_true rfl, Nat.le_of_ble_eq_true rfl⟩, fun _ => ko_0 _ _, hR⟩
    · by_cases hw1 : p1.toInt = 1
      · obtain rfl : p1 = nI 1 := kt_tI (by decide) hw1
        exact ⟨0, _, _, _, _, _, _, _, _, _, _, _, _, _, _, _, _, _, by decide, (cL_level_ok (cL := cL) (o0 := o0) (fo := fo) (hM := (c_X0_level_1 l dC dI cA h0 q0 q1 q2 q3 q4 q5 w ce nm tl tc tw T n z wtc wia off i hn hi)) (hrm := ⟨rfl, rfl⟩) (hrf := ⟨Nat.le_of_ble_eq_true rfl, Nat.le_of_ble_eq_true rfl⟩)), (c_X1_level_1 l dC dI cA g0 r1 r2 r3 r4 r5 ce w we wr nm n T cd off wtc wia i hn hi), ⟨rfl, rfl, Nat.le_of_ble_eq_true rfl, Nat.le_of_ble_eq_true rfl⟩, fun _ => ko_0 _ _, hR⟩
      · exact ⟨1, _, _, _, _, _, _, _, _, _, _, _, _, _, _, _, _, _, by decide, (cL_level_xIAE (cL := cL) (o0 := o0) (fo := fo) (hM := (c_X0_level_xb l hl0 dC dI cA h0 q0 q1 q2 q3 q4 q5 w ce nm tl tc tw T n z wtc wia off i p1 hn hi hw0 hw1)) (hrm := ⟨rfl, rfl⟩) (hrf := ⟨Nat.le_of_ble_eq_true rfl, Nat.le_of_ble_eq_true rfl⟩)), (c_X1_level_b l dC dI cA g0 r1 r2 r3 r4 r5 ce w we wr nm n T cd off wtc wia i p1 hn hi hw0 hw1), ⟨rfl, rfl, Nat.le_of_ble_eq_true rfl, Nat.le_of_ble_eq_true rfl⟩, fun h => absurd h (by decide), hR⟩
set_option maxHeartbeats 4000000 in
set_option maxRecDepth 100000 in
theorem s_about (l : Launch) (hl0 : l.stackTraces = false) (dC : Nat → ClassId) (dI : Nat → Nat → Nat) (cA cL : ClassId) (h0 q0 q1 q2 q3 q4 q5 o0 g0 r1 r2 r3 r4 r5 : Nat) (fo : Nat → Int64) (w ce nm tl tc tw we wr : Nat → Int32) (T n z : Nat) (wtc wia off cd : Int32) (p0 : Int32) (hR : kR ce nm T n z tl tc tw we wr) : kSt l dC dI cA cL h0 q0 q1 q2 q3 q4 q5 o0 g0 r1 r2 r3 r4 r5 yL_about wsL_about yX1_about wsX1_about [.int p0] fo w ce nm tl tc tw we wr T n z wtc wia off cd := by
  have hT8 : T ≤ 8 := hR.1.1
  have hn := kR_88 hR
  have hz : z ≤ 60 := hR.2.1
  by_cases hw : p0.toInt < 0 ∨ 6 < p0.toInt
  · exact ⟨1, _, _, _, _, _, _, _, _, _, _, _, _, _, _, _, _, _, by decide, (cL_about_xIAE (cL := cL) (o0 := o0) (fo := fo) (hM := (c_X0_about_x l hl0 dC dI cA h0 q0 q1 q2 q3 q4 q5 w ce nm tl tc tw T n z wtc wia off p0 hw)) (hrm := ⟨rfl, rfl⟩) (hrf := ⟨Nat.le_of_ble_eq_true rfl, Nat.le_of_ble_eq_true rfl⟩)), (c_X1_about_x l dC dI cA g0 r1 r2 r3 r4 r5 ce w we wr nm n T cd off wtc wia p0 hw), ⟨rfl, rfl, Nat.le_of_ble_eq_true rfl, Nat.le_of_ble_eq_true rfl⟩, fun h => absurd h (by decide), hR⟩
  · have h9 : p0.toInt = ((0 : Nat) : Int) ∨ p0.toInt = ((1 : Nat) : Int) ∨ p0.toInt = ((2 : Nat) : Int) ∨ p0.toInt = ((3 : Nat) : Int) ∨ p0.toInt = ((4 : Nat) : Int) ∨ p0.toInt = ((5 : Nat) : Int) ∨ p0.toInt = ((6 : Nat) : Int) := by omega
    rcases h9 with h9 | h9 | h9 | h9 | h9 | h9 | h9
    · obtain rfl : p0 = nI 0 := kt_tI (by decide) h9
      exact ⟨0, _, _, _, _, _, _, _, _, _, _, _, _, _, _, _, _, _, by decide, (cL_about_ok (cL := cL) (o0 := o0) (fo := fo) (hM := (c_X0_about_0 l dC dI cA h0 q0 q1 q2 q3 q4 q5 w ce nm tl tc tw T n z wtc wia off  )) (hrm := ⟨rfl, rfl⟩) (hrf := ⟨Nat.le_of_ble_eq_true rfl, Nat.le_of_ble_eq_true rfl⟩)), (c_X1_about_0 l dC dI cA g0 r1 r2 r3 r4 r5 ce w we wr nm n T cd off wtc wia  ), ⟨rfl, rfl, Nat.le_of_ble_eq_true rfl, Nat.le_of_ble_eq_true rfl⟩, fun _ => ko_0 _ _, hR⟩
    · obtain rfl : p0 = nI 1 := kt_tI (by decide) h9
      exact ⟨0, _, _, _, _, _, _, _, _, _, _, _, _, _, _, _, _, _, by decide, (cL_about_ok (cL := cL) (o0 := o0) (fo := fo) (hM := (c_X0_about_1 l dC dI cA h0 q0 q1 q2 q3 q4 q5 w ce nm tl tc tw T n z wtc wia off  )) (hrm := ⟨rfl, rfl⟩) (hrf := ⟨Nat.le_of_ble_eq_true rfl, Nat.le_of_ble_eq_true rfl⟩)), (c_X1_about_1 l dC dI cA g0 r1 r2 r3 r4 r5 ce w we wr nm n T cd off wtc wia  ), ⟨rfl, rfl, Nat.le_of_ble_eq_true rfl, Nat.le_of_ble_eq_true rfl⟩, fun _ => ko_0 _ _, hR⟩
    · obtain rfl : p0 = nI 2 := kt_tI (by decide) h9
      have hm := (c_X1_about_2 l dC dI cA g0 r1 r2 r3 r4 r5 ce w we wr nm n T cd off wtc wia  hn)
      rw [← kT_len hR.2] at hm
      exact ⟨0, _, _, _, _, _, _, _, _, _, _, _, _, _, _, _, _, _, by decide, (cL_about_ok (cL := cL) (o0 := o0) (fo := fo) (hM := (c_X0_about_2 l dC dI cA h0 q0 q1 q2 q3 q4 q5 w ce nm tl tc tw T n z wtc wia off  )) (hrm := ⟨rfl, rfl⟩) (hrf := ⟨Nat.le_of_ble_eq_true rfl, Nat.le_of_ble_eq_true rfl⟩)), hm, ⟨rfl, rfl, Nat.le_of_ble_eq_true rfl, Nat.le_of_ble_eq_true rfl⟩, fun _ => ko_0 _ _, hR⟩
    · obtain rfl : p0 = nI 3 := kt_tI (by decide) h9
      exact ⟨0, _, _, _, _, _, _, _, _, _, _, _, _, _, _, _, _, _, by decide, (cL_about_ok (cL := cL) (o0 := o0) (fo := fo) (hM := (c_X0_about_3 l dC dI cA h0 q0 q1 q2 q3 q4 q5 w ce nm tl tc tw T n z wtc wia off  )) (hrm := ⟨rfl, rfl⟩) (hrf := ⟨Nat.le_of_ble_eq_true rfl, Nat.le_of_ble_eq_true rfl⟩)), (c_X1_about_3 l dC dI cA g0 r1 r2 r3 r4 r5 ce w we wr nm n T cd off wtc wia  ), ⟨rfl, rfl, Nat.le_of_ble_eq_true rfl, Nat.le_of_ble_eq_true rfl⟩, fun _ => ko_0 _ _, hR⟩
    · obtain rfl : p0 = nI 4 := kt_tI (by decide) h9
      exact ⟨0, _, _, _, _, _, _, _, _, _, _, _, _, _, _, _, _, _, by decide, (cL_about_ok (cL := cL) (o0 := o0) (fo := fo) (hM := (c_X0_about_4 l dC dI cA h0 q0 q1 q2 q3 q4 q5 w ce nm tl tc tw T n z wtc wia off  )) (hrm := ⟨rfl, rfl⟩) (hrf := ⟨Nat.le_of_ble_eq_true rfl, Nat.le_of_ble_eq_true rfl⟩)), (c_X1_about_4 l dC dI cA g0 r1 r2 r3 r4 r5 ce w we wr nm n T cd off wtc wia  ), ⟨rfl, rfl, Nat.le_of_ble_eq_true rfl, Nat.le_of_ble_eq_true rfl⟩, fun _ => ko_0 _ _, hR⟩
    · obtain rfl : p0 = nI 5 := kt_tI (by decide) h9
      exact ⟨0, _, _, _, _, _, _, _, _, _, _, _, _, _, _, _, _, _, by decide, (cL_about_ok (cL := cL) (o0 := o0) (fo := fo) (hM := (c_X0_about_5 l dC dI cA h0 q0 q1 q2 q3 q4 q5 w ce nm tl tc tw T n z wtc wia off  )) (hrm := ⟨rfl, rfl⟩) (hrf := ⟨Nat.le_of_ble_eq_true rfl, Nat.le_of_ble_eq_true rfl⟩)), (c_X1_about_5 l dC dI cA g0 r1 r2 r3 r4 r5 ce w we wr nm n T cd off wtc wia  ), ⟨rfl, rfl, Nat.le_of_ble_eq_true rfl, Nat.le_of_ble_eq_true rfl⟩, fun _ => ko_0 _ _, hR⟩
    · obtain rfl : p0 = nI 6 := kt_tI (by decide) h9
      have hc := (cL_about_ok (cL := cL) (o0 := o0) (fo := fo) (hM := (c_X0_about_6 l dC dI cA h0 q0 q1 q2 q3 q4 q5 w ce nm tl tc tw T n z wtc wia off  hn)) (hrm := ⟨rfl, rfl⟩) (hrf := ⟨Nat.le_of_ble_eq_true rfl, Nat.le_of_ble_eq_true rfl⟩))
      by_cases hT : T = 0
      · have hn0 : n = 0 := kN_n0 (by rw [← hT]; exact hR.1)
        have e9 : n - kx_inn nm n = 0 := by omega
        rw [e9] at hc
        exact ⟨0, _, _, _, _, _, _, _, _, _, _, _, _, _, _, _, _, _, by decide, hc, (c_X1_about_60 l dC dI cA g0 r1 r2 r3 r4 r5 ce w we wr nm n T cd off wtc wia  hT), ⟨rfl, rfl, Nat.le_of_ble_eq_true rfl, Nat.le_of_ble_eq_true rfl⟩, fun _ => ko_0 _ _, hR⟩
      · have hT1 : 0 < T := Nat.pos_of_ne_zero hT
        have hj := kN_inn hR.1 (kN_pos hR.1 hT1)
        exact ⟨0, _, _, _, _, _, _, _, _, _, _, _, _, _, _, _, _, _, by decide, hc, (c_X1_about_6p l dC dI cA g0 r1 r2 r3 r4 r5 ce w we wr nm n T cd off wtc wia  hT1 hT8 hn hj), ⟨rfl, rfl, Nat.le_of_ble_eq_true rfl, Nat.le_of_ble_eq_true rfl⟩, fun _ => ko_0 _ _, hR⟩
set_option maxHeartbeats 4000000 in
set_option maxRecDepth 100000 in
theorem s_recover (l : Launch) (dC : Nat → ClassId) (dI : Nat → Nat → Nat) (cA : ClassId) (h0 q0 q1 q2 q3 q4 q5 g0 r1 r2 r3 r4 r5 : Nat) (w ce nm tl tc tw we wr : Nat → Int32) (T n z : Nat) (wtc wia off cd : Int32) :
    ∃ (r : Int32) (rm rm2 : Room) (w2 ce2 : Nat → Int32) (wia2 : Int32), kMi l yX0_recover wsX0_recover rm dC dI [(cA, .int)] (wX0 cA h0 q0 q1 q2 q3 q4 q5 w ce nm tl tc tw T n z wtc wia off) [.ref h0] r (wX0 cA h0 q0 q1 q2 q3 q4 q5 w2 ce2 nm tl tc tw 0 0 0 (nI 0) wia2 (nI 0)) ∧
      kMi l yX1_recover wsX1_recover rm2 dC dI [(cA, .int)] (wX1 cA g0 r1 r2 r3 r4 r5 ce w we wr nm n T cd off wtc wia) [.ref g0] r (wX1 cA g0 r1 r2 r3 r4 r5 ce2 w2 we wr nm 0 0 (nI 0) (nI 0) (nI 0) wia2) ∧ (rm.cells = 0 ∧ rm.slots = 0 ∧ rm.frames ≤ 8 ∧ rm.locals ≤ 130) ∧ (rm2.cells = 0 ∧ rm2.slots = 0 ∧ rm2.frames ≤ 8 ∧ rm2.locals ≤ 130) := by
  by_cases h0k : w 32 = 0
  · have hm := (c_X1_recover_c l dC dI cA g0 r1 r2 r3 r4 r5 ce w we wr nm n T cd off wtc wia  h0k)
    have e1 : wia + nI 0 = wia := by rw [nI_0, Int32.add_zero]
    rw [upd_self w 32 (h0k.trans nI_0.symm), e1] at hm
    exact ⟨_, _, _, _, _, _, (c_X0_recover_c l dC dI cA h0 q0 q1 q2 q3 q4 q5 w ce nm tl tc tw T n z wtc wia off  h0k), hm, ⟨rfl, rfl, Nat.le_of_ble_eq_true rfl, Nat.le_of_ble_eq_true rfl⟩, ⟨rfl, rfl, Nat.le_of_ble_eq_true rfl, Nat.le_of_ble_eq_true rfl⟩⟩
  · by_cases hb9 : w 32 < nI 1 ∨ nI 32 < w 32
    · have hc := (c_X0_recover_b l dC dI cA h0 q0 q1 q2 q3 q4 q5 w ce nm tl tc tw T n z wtc wia off  hb9 h0k)
      rw [kt_pw0] at hc
      exact ⟨_, _, _, _, _, _, hc, (c_X1_recover_b l dC dI cA g0 r1 r2 r3 r4 r5 ce w we wr nm n T cd off wtc wia  hb9 h0k), ⟨rfl, rfl, Nat.le_of_ble_eq_true rfl, Nat.le_of_ble_eq_true rfl⟩, ⟨rfl, rfl, Nat.le_of_ble_eq_true rfl, Nat.le_of_ble_eq_true rfl⟩⟩
    · obtain ⟨mk, hmk0, hmk⟩ : ∃ mk : Nat, mk < 2 ^ 31 ∧ w 32 = nI mk := by
        obtain ⟨i, hi, e⟩ := nI_of (x := w 32) (fun q => hb9 (Or.inl (by rw [Int32.lt_iff_toInt_lt] at q ⊢; have e1 : (nI 1).toInt = 1 := by decide
                                                                         have e0 : (0 : Int32).toInt = 0 := by decide
                                                                         omega)))
        exact ⟨i, hi, e⟩
      have h1k : 1 ≤ mk := by
        rcases Nat.eq_zero_or_pos mk with q | q
        · rw [q, nI_0] at hmk; exact absurd hmk h0k
        · exact q
      have h2k : mk ≤ 32 := Nat.le_of_not_lt (fun q => hb9 (Or.inr (by rw [hmk]; exact (nI_ltI (by decide) hmk0).mpr q)))
      have e1 : kx_pw (kx_hf (w, nI 0, wia, nI 0) mk).1 32 (nI 0) = (upd (rx_hf w mk).1 32 (nI 0), nI 0, wia + nI ((rx_hf w mk).2 + 1), nI 0) := by
        rw [kt_hf, ← nI_add, ← Int32.add_assoc]
        exact kt_pw0 _ _ _ _
      have e2 : (kx_hf (w, nI 0, wia, nI 0) mk).2 = (rx_hf w mk).2 := by rw [kt_hf]
      have hc := (c_X0_recover_a l dC dI cA h0 q0 q1 q2 q3 q4 q5 w ce nm tl tc tw T n z wtc wia off mk hmk h1k h2k)
      rw [e1, e2] at hc
      exact ⟨_, _, _, _, _, _, hc, (c_X1_recover_a l dC dI cA g0 r1 r2 r3 r4 r5 ce w we wr nm n T cd off wtc wia mk hmk h1k h2k), ⟨rfl, rfl, Nat.le_of_ble_eq_true rfl, Nat.le_of_ble_eq_true rfl⟩, ⟨rfl, rfl, Nat.le_of_ble_eq_true rfl, Nat.le_of_ble_eq_true rfl⟩⟩
