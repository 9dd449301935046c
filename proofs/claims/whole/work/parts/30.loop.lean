/-! the loop -/
set_option maxHeartbeats 4000000 in
set_option maxRecDepth 100000 in
theorem w_loop {p : Program} {l : Launch} {e : Env} {s : State} {m : MethodId} {below : List Frame} {meth : Method} {c : Code} (dC : Nat → ClassId) (dI : Nat → Nat → Nat) {b L : Nat} {xs : Nat → Int32} (hl0 : l.stackTraces = false) (hL : L ≤ 1536) (C0 : lw_At p s m meth c b L xs) (cA cL : ClassId) (h0 q0 q1 q2 q3 q4 q5 g0 r1 r2 r3 r4 r5 o0 : Nat) (hK : va_K (dC, dI) vwCl [(cA, .int), (cL, .long)] s) (hZ : kZ (fun q : Nat => s.heap.size ≤ q) s) (hN : va_Nc kISE kIAE s) : ∀ k j : Nat, j + k = 513 → kGo p l e s m below meth c dC dI b cA cL h0 q0 q1 q2 q3 q4 q5 g0 r1 r2 r3 r4 r5 o0 j (14 + j) (3612 + 6 * j) 23 := by
  intro k
  induction k with
  | zero =>
    intro j hjk
    intro fo w ce nm tl tc tw we wr T n z wtc wia off cd hR H locs hP hD hS ls hl
    obtain ⟨hx, hb, hr, hml, hown, hts0, hX, hbl, hlocks, hgv⟩ := id C0
    have hts : ∀ w ∈ wsL_law, w.before #[Value.ref b] s = true := fun w h => hts0 w (wsL_law_in w h)
    have hA : ∀ q : Nat, s.heap.size ≤ q → (fun q : Nat => s.heap.size ≤ q) q := fun _ h => h
    have hbA : ¬ (fun q : Nat => s.heap.size ≤ q) b := Nat.not_le.mpr hbl
    refine lv_iload hx hb dL_law_23 (lv_at hl 4 rfl) ?_
    refine lv_aload_n hx hb dL_law_25 rfl (lv_at hl 0 rfl) ?_
    refine va_slen hx hb hX hbl hbA hS dL_law_26 ?_
    refine lv_iconst (v := (nI 3)) hx hb dL_law_27 (by decide) ?_
    refine lv_isub hx hb dL_law_28 ?_
    refine lv_icmp_gt (tgt := 837) hx hb dL_law_29 (by decide) (fun _ => ?_) (fun h9 => ?_)
    · refine lv_iconst (v := 1) hx hb dL_law_837 (by decide) ?_
      refine va_forget hS.2.2 ?_
      refine W.widen (k := 1049) (n := 11870) (by omega) (by omega) ?_
      exact lw_ret hx hb hr hlocks dL_law_838
    · exact absurd (kl_le hL (by omega) h9) (by omega)
  | succ k ih =>
    intro j hjk
    intro fo w ce nm tl tc tw we wr T n z wtc wia off cd hR H locs hP hD hS ls hl
    obtain ⟨hx, hb, hr, hml, hown, hts0, hX, hbl, hlocks, hgv⟩ := id C0
    have hts : ∀ w ∈ wsL_law, w.before #[Value.ref b] s = true := fun w h => hts0 w (wsL_law_in w h)
    have hA : ∀ q : Nat, s.heap.size ≤ q → (fun q : Nat => s.heap.size ≤ q) q := fun _ h => h
    have hbA : ¬ (fun q : Nat => s.heap.size ≤ q) b := Nat.not_le.mpr hbl
    refine lv_iload hx hb dL_law_23 (lv_at hl 4 rfl) ?_
    refine lv_aload_n hx hb dL_law_25 rfl (lv_at hl 0 rfl) ?_
    refine va_slen hx hb hX hbl hbA hS dL_law_26 ?_
    refine lv_iconst (v := (nI 3)) hx hb dL_law_27 (by decide) ?_
    refine lv_isub hx hb dL_law_28 ?_
    refine lv_icmp_gt (tgt := 837) hx hb dL_law_29 (by decide) (fun _ => ?_) (fun h9 => ?_)
    · refine lv_iconst (v := 1) hx hb dL_law_837 (by decide) ?_
      refine va_forget hS.2.2 ?_
      refine W.widen (k := 1049) (n := 11870) (by omega) (by omega) ?_
      exact lw_ret hx hb hr hlocks dL_law_838
    · have hj := kl_le hL (by omega) h9
      refine lv_aload_n hx hb dL_law_32 rfl (lv_at hl 0 rfl) ?_
      refine lv_iload hx hb dL_law_33 (lv_at hl 4 rfl) ?_
      refine kv_sld hx hb hX hbl hbA hS (t := 3 * j) (by omega) (by omega) dL_law_35 ?_
      refine lv_bipush (v := (nI 15)) hx hb dL_law_36 (by decide) ?_
      refine lv_iand hx hb dL_law_38 ?_
      obtain ⟨v, hv, ev⟩ := kl_and (xs (3 * j))
      refine kv_top (w := .int (nI v)) (congrArg Value.int ev) ?_
      have hnext : kGo p l e s m below meth c dC dI b cA cL h0 q0 q1 q2 q3 q4 q5 g0 r1 r2 r3 r4 r5 o0 j (14 + j + 1) (3612 + 6 * j + 6) 831 := by
        intro fo w ce nm tl tc tw we wr T n z wtc wia off cd hR H locs hP hD hS ls hl
        refine lv_iinc (v := nI (3 * (j + 1))) (lv' := [(4, .int (nI (3 * (j + 1)))), (0, .ref b), (1, .ref h0), (2, .ref g0), (3, .ref o0)]) hx hb dL_law_831 hl (k := 4) rfl (kv_inc _ 3 (by decide)) (by decide) rfl (fun ls hl => ?_)
        refine lv_goto (tgt := 23) hx hb dL_law_834 (by decide) ?_
        exact ih (j + 1) (by omega) _ _ _ _ _ _ _ _ _ _ _ _ _ _ _ _ hR H locs hP hD hS ls (lv_sub hl [1, 2, 3, 4, 0] rfl)
      have hcs : 14 + j + 1 ≤ 1049 ∧ 3612 + 6 * j + 6 ≤ 11870 := by omega
      have hv2 : v = 0 ∨ v = 1 ∨ v = 2 ∨ v = 3 ∨ v = 4 ∨ v = 5 ∨ v = 6 ∨ v = 7 ∨ v = 8 ∨ v = 9 ∨ v = 10 ∨ v = 11 ∨ v = 12 ∨ v = 13 ∨ v = 14 ∨ v = 15 := by omega
      rcases hv2 with rfl | rfl | rfl | rfl | rfl | rfl | rfl | rfl | rfl | rfl | rfl | rfl | rfl | rfl | rfl | rfl
      · refine lv_tableIn (off := 73) (tgt := 112) hx hb dL_law_39 (by decide) (by decide) (by decide) (by decide) ?_
        exact w_format dC dI hl0 hL C0 cA cL h0 q0 q1 q2 q3 q4 q5 g0 r1 r2 r3 r4 r5 o0 hK hZ hN j hj _ _ hcs hnext fo w ce nm tl tc tw we wr T n z wtc wia off cd hR H locs hP hD hS ls hl
      · refine lv_tableIn (off := 84) (tgt := 123) hx hb dL_law_39 (by decide) (by decide) (by decide) (by decide) ?_
        exact w_begin dC dI hl0 hL C0 cA cL h0 q0 q1 q2 q3 q4 q5 g0 r1 r2 r3 r4 r5 o0 hK hZ hN j hj _ _ hcs hnext fo w ce nm tl tc tw we wr T n z wtc wia off cd hR H locs hP hD hS ls hl
      · refine lv_tableIn (off := 128) (tgt := 167) hx hb dL_law_39 (by decide) (by decide) (by decide) (by decide) ?_
        exact w_write dC dI hl0 hL C0 cA cL h0 q0 q1 q2 q3 q4 q5 g0 r1 r2 r3 r4 r5 o0 hK hZ hN j hj _ _ hcs hnext fo w ce nm tl tc tw we wr T n z wtc wia off cd hR H locs hP hD hS ls hl
      · refine lv_tableIn (off := 196) (tgt := 235) hx hb dL_law_39 (by decide) (by decide) (by decide) (by decide) ?_
        exact w_read dC dI hl0 hL C0 cA cL h0 q0 q1 q2 q3 q4 q5 g0 r1 r2 r3 r4 r5 o0 hK hZ hN j hj _ _ hcs hnext fo w ce nm tl tc tw we wr T n z wtc wia off cd hR H locs hP hD hS ls hl
      · refine lv_tableIn (off := 252) (tgt := 291) hx hb dL_law_39 (by decide) (by decide) (by decide) (by decide) ?_
        exact w_commit dC dI hl0 hL C0 cA cL h0 q0 q1 q2 q3 q4 q5 g0 r1 r2 r3 r4 r5 o0 hK hZ hN j hj _ _ hcs hnext fo w ce nm tl tc tw we wr T n z wtc wia off cd hR H locs hP hD hS ls hl
      · refine lv_tableIn (off := 296) (tgt := 335) hx hb dL_law_39 (by decide) (by decide) (by decide) (by decide) ?_
        exact w_abort dC dI hl0 hL C0 cA cL h0 q0 q1 q2 q3 q4 q5 g0 r1 r2 r3 r4 r5 o0 hK hZ hN j hj _ _ hcs hnext fo w ce nm tl tc tw we wr T n z wtc wia off cd hR H locs hP hD hS ls hl
      · refine lv_tableIn (off := 340) (tgt := 379) hx hb dL_law_39 (by decide) (by decide) (by decide) (by decide) ?_
        exact w_point dC dI hl0 hL C0 cA cL h0 q0 q1 q2 q3 q4 q5 g0 r1 r2 r3 r4 r5 o0 hK hZ hN j hj _ _ hcs hnext fo w ce nm tl tc tw we wr T n z wtc wia off cd hR H locs hP hD hS ls hl
      · refine lv_tableIn (off := 396) (tgt := 435) hx hb dL_law_39 (by decide) (by decide) (by decide) (by decide) ?_
        exact w_back dC dI hl0 hL C0 cA cL h0 q0 q1 q2 q3 q4 q5 g0 r1 r2 r3 r4 r5 o0 hK hZ hN j hj _ _ hcs hnext fo w ce nm tl tc tw we wr T n z wtc wia off cd hR H locs hP hD hS ls hl
      · refine lv_tableIn (off := 452) (tgt := 491) hx hb dL_law_39 (by decide) (by decide) (by decide) (by decide) ?_
        exact w_release dC dI hl0 hL C0 cA cL h0 q0 q1 q2 q3 q4 q5 g0 r1 r2 r3 r4 r5 o0 hK hZ hN j hj _ _ hcs hnext fo w ce nm tl tc tw we wr T n z wtc wia off cd hR H locs hP hD hS ls hl
      · refine lv_tableIn (off := 508) (tgt := 547) hx hb dL_law_39 (by decide) (by decide) (by decide) (by decide) ?_
        exact w_crash dC dI hl0 hL C0 cA cL h0 q0 q1 q2 q3 q4 q5 g0 r1 r2 r3 r4 r5 o0 hK hZ hN j hj _ _ hcs hnext fo w ce nm tl tc tw we wr T n z wtc wia off cd hR H locs hP hD hS ls hl
      · refine lv_tableIn (off := 531) (tgt := 570) hx hb dL_law_39 (by decide) (by decide) (by decide) (by decide) ?_
        exact w_recover dC dI hl0 hL C0 cA cL h0 q0 q1 q2 q3 q4 q5 g0 r1 r2 r3 r4 r5 o0 hK hZ hN j hj _ _ hcs hnext fo w ce nm tl tc tw we wr T n z wtc wia off cd hR H locs hP hD hS ls hl
      · refine lv_tableIn (off := 544) (tgt := 583) hx hb dL_law_39 (by decide) (by decide) (by decide) (by decide) ?_
        exact w_disk dC dI hl0 hL C0 cA cL h0 q0 q1 q2 q3 q4 q5 g0 r1 r2 r3 r4 r5 o0 hK hZ hN j hj _ _ hcs hnext fo w ce nm tl tc tw we wr T n z wtc wia off cd hR H locs hP hD hS ls hl
      · refine lv_tableIn (off := 600) (tgt := 639) hx hb dL_law_39 (by decide) (by decide) (by decide) (by decide) ?_
        exact w_spoil dC dI hl0 hL C0 cA cL h0 q0 q1 q2 q3 q4 q5 g0 r1 r2 r3 r4 r5 o0 hK hZ hN j hj _ _ hcs hnext fo w ce nm tl tc tw we wr T n z wtc wia off cd hR H locs hP hD hS ls hl
      · refine lv_tableIn (off := 668) (tgt := 707) hx hb dL_law_39 (by decide) (by decide) (by decide) (by decide) ?_
        exact w_level dC dI hl0 hL C0 cA cL h0 q0 q1 q2 q3 q4 q5 g0 r1 r2 r3 r4 r5 o0 hK hZ hN j hj _ _ hcs hnext fo w ce nm tl tc tw we wr T n z wtc wia off cd hR H locs hP hD hS ls hl
      · refine lv_tableIn (off := 736) (tgt := 775) hx hb dL_law_39 (by decide) (by decide) (by decide) (by decide) ?_
        exact w_about dC dI hl0 hL C0 cA cL h0 q0 q1 q2 q3 q4 q5 g0 r1 r2 r3 r4 r5 o0 hK hZ hN j hj _ _ hcs hnext fo w ce nm tl tc tw we wr T n z wtc wia off cd hR H locs hP hD hS ls hl
      · refine lv_tableOut (tgt := 831) hx hb dL_law_39 (by decide) (by decide) ?_
        refine W.widen (k := 14 + j + 1) (n := 3612 + 6 * j + 6) (by omega) (by omega) ?_
        exact hnext fo w ce nm tl tc tw we wr T n z wtc wia off cd hR H locs hP hD hS ls hl
