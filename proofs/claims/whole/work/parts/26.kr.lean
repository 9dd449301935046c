/-! both states together -/
def kR (ce nm : Nat → Int32) (T n z : Nat) (tl tc tw we wr : Nat → Int32) : Prop := kN nm T n ∧ kT ce n z tl tc tw we wr
section
variable {ce nm tl tc tw we wr : Nat → Int32} {T n z : Nat}
theorem kT_0 (ce tl tc tw we wr : Nat → Int32) : kT ce 0 0 tl tc tw we wr :=
  ⟨by omega, fun _ => 0, fun _ => 0, fun t h => absurd h (by omega), fun s t _ h => absurd h (by omega), fun i c h _ => absurd h (by omega), fun i c h _ => absurd h (by omega)⟩
theorem kR_0 (ce nm tl tc tw we wr : Nat → Int32) : kR ce nm 0 0 0 tl tc tw we wr := ⟨kN_0 nm, kT_0 ce tl tc tw we wr⟩
theorem kR_88 (h : kR ce nm T n z tl tc tw we wr) : n ≤ 88 := kN_88 h.1
theorem kT_len (h : kT ce n z tl tc tw we wr) : z = rx_tr wr n := by
  obtain ⟨h1, a, b, h2⟩ := h
  exact kTa_len h2
theorem kT_mask (h : kT ce n z tl tc tw we wr) (hn : n ≤ 88) {i : Nat} (hi : i < n) : kx_tc tl tc (nI i) z = wr i := by
  obtain ⟨h1, a, b, h2⟩ := h
  exact kTa_mask h2 hn hi
theorem kT_tc (h : kT ce n z tl tc tw we wr) : ∀ t, t < z → ∃ i : Nat, i < 32 ∧ tc t = nI i := by
  obtain ⟨h1, a, b, h2⟩ := h
  intro t ht
  obtain ⟨u1, u2, u3, u4⟩ := h2.1 t ht
  exact ⟨b t, u4, u2⟩
theorem kT_open (h : kT ce n z tl tc tw we wr) : kT ce (n + 1) z tl tc tw (rx_op we ce n 32) (upd wr n (nI 0)) := by
  obtain ⟨h1, a, b, h2⟩ := h
  refine ⟨h1, a, b, kTa_open h2 (fun j hj => ?_) (fun c hc => ?_) (fun i hi => pk_un (by omega)) pk_us⟩
  · rw [rx_op, if_neg (by omega)]
  · rw [rx_op, if_pos (by omega)]
    congr 1
    omega
theorem kT_wt {cell : Nat} {v : Int32} (h : kT ce n z tl tc tw we wr) (hc0 : cell < 32) (hm : mo_b (wr (n - 1)) cell = 1) (hn : 0 < n) : kT (upd ce cell v) n z tl tc tw we (upd wr (n - 1) (wr (n - 1) ||| ((nI 1) <<< ((nI cell) &&& 31)))) := by
  obtain ⟨h1, a, b, h2⟩ := h
  exact ⟨h1, a, b, kTa_wt h2 hc0 hm hn⟩
theorem kT_wu {cell : Nat} {v : Int32} (h : kT ce n z tl tc tw we wr) (hc0 : cell < 32) (hm : mo_b (wr (n - 1)) cell = 0) (hn : 0 < n) (hz : z < 60) : kT (upd ce cell v) n (z + 1) (upd tl z (nI (n - 1))) (upd tc z (nI cell)) (upd tw z (ce cell)) we (upd wr (n - 1) (wr (n - 1) ||| ((nI 1) <<< ((nI cell) &&& 31)))) := by
  obtain ⟨h1, a, b, h2⟩ := h
  exact ⟨by omega, _, _, kTa_wu h2 hc0 hm hn⟩
theorem kT_back (h : kT ce n z tl tc tw we wr) (hn : n ≤ 88) {lev : Nat} (hl : lev < n) :
    (kx_gb tl tc tw (nI lev) z ce 0).2.2 = rx_sm wr lev (n - lev) ∧ (kx_gb tl tc tw (nI lev) z ce 0).2.1 = rx_ce ce we lev 32 ∧ kT (rx_ce ce we lev 32) lev (kx_gb tl tc tw (nI lev) z ce 0).1 tl tc tw we wr := by
  obtain ⟨h1, a, b, h2⟩ := h
  obtain ⟨u1, u2, u3, u4⟩ := kg_back h2 hn hl
  exact ⟨u2, u3, Nat.le_trans u1 h1, a, b, u4⟩
theorem kT_stay {lev : Nat} (h : kT (rx_ce ce we lev 32) lev z tl tc tw we wr) : kT (rx_ce ce we lev 32) (lev + 1) z tl tc tw we (upd wr lev (nI 0)) := by
  obtain ⟨h1, a, b, h2⟩ := h
  exact ⟨h1, a, b, kTa_open h2 (fun j _ => rfl) (fun c hc => by rw [rx_ce, if_pos hc]) (fun i hi => pk_un (by omega)) pk_us⟩
theorem kT_fold (h : kT ce n z tl tc tw we wr) (hn : n ≤ 88) {lev : Nat} (hl0 : 1 ≤ lev) (hl : lev < n) :
    kT ce (n - 1) (kx_fd (nm, tl, tc, tw, n, z) lev).2.2.2.2.2 (kx_fd (nm, tl, tc, tw, n, z) lev).2.1 (kx_fd (nm, tl, tc, tw, n, z) lev).2.2.1 (kx_fd (nm, tl, tc, tw, n, z) lev).2.2.2.1 (rx_sw we lev (32 * (n - 1))) (kx_sh (upd wr (lev - 1) (wr (lev - 1) ||| wr lev)) lev n) := by
  obtain ⟨h1, a, b, h2⟩ := h
  obtain ⟨a', b', h3⟩ := kg_fold h2 hn hl0 hl
  exact ⟨Nat.le_trans (kx_fd_z (nm, tl, tc, tw, n, z) lev) h1, a', b', h3⟩
theorem kT_cm (j : Nat) (hj : 1 ≤ j) : ∀ (k : Nat) (S : kx_F) (wr : Nat → Int32), S.2.2.2.2.1 = k → k ≤ 88 → j ≤ k → kT ce k S.2.2.2.2.2 S.2.1 S.2.2.1 S.2.2.2.1 we wr →
    (kx_cm j k S).1 = S.1 ∧ kT ce j (kx_cm j k S).2.2.2.2.2 (kx_cm j k S).2.1 (kx_cm j k S).2.2.1 (kx_cm j k S).2.2.2.1 we (rx_cw j k wr)
  | 0, S, wr, _, _, h2, _ => by omega
  | k + 1, S, wr, h, h1, h2, h3 => by
    rw [kx_cm, rx_cw]
    by_cases q : k + 1 ≤ j
    · rw [if_pos q, if_pos q]
      have e : j = k + 1 := by omega
      subst e
      exact ⟨rfl, h3⟩
    · rw [if_neg q, if_neg q]
      obtain ⟨nm, tl, tc, tw, n, z⟩ := S
      have h : n = k + 1 := h
      subst h
      have h4 := kT_fold (nm := nm) h3 h1 (lev := k) (by omega) (by omega)
      rw [show k + 1 - 1 = k from rfl, rx_sw_0, kx_sh_0] at h4
      obtain ⟨u1, u2⟩ := kT_cm j hj k (kx_fd (nm, tl, tc, tw, k + 1, z) k) _ rfl (by omega) (by omega) h4
      refine ⟨u1.trans ?_, u2⟩
      show kx_sh nm k (k + 1) = nm
      exact kx_sh_0 nm k
end
theorem kt_of {x : Int32} {k : Nat} (hk : k < 2 ^ 31) (h : ¬ (x < 0 ∨ ¬ x < nI k)) : ∃ i : Nat, i < k ∧ x = nI i := by
  obtain ⟨i, hi, rfl⟩ := nI_of (fun q => h (Or.inl q))
  refine ⟨i, ?_, rfl⟩
  have h2 : nI i < nI k := Classical.byContradiction (fun q => h (Or.inr q))
  exact (nI_ltI hi hk).mp h2
theorem kt_tI {x : Int32} {k : Nat} (hk : k < 2 ^ 31) (h : x.toInt = (k : Int)) : x = nI k := by
  apply Int32.toInt_inj.mp
  rw [h, nI_toInt hk]
theorem kt_td0 : rx_td (nI 0) = nI 0 := by rw [rx_td, if_pos (by decide)]
theorem kt_pw0 (w : Nat → Int32) (wia : Int32) (i : Nat) (v : Int32) : kx_pw (w, nI 0, wia, nI 0) i v = (upd w i v, nI 0, wia + nI 1, nI 0) := by
  rw [rx_pw_w nI_0 (by decide), kt_td0]
theorem kt_hf (w : Nat → Int32) (wia : Int32) : ∀ k, kx_hf (w, nI 0, wia, nI 0) k = (((rx_hf w k).1, nI 0, wia + nI (rx_hf w k).2, nI 0), (rx_hf w k).2)
  | 0 => by
    show ((w, nI 0, wia, nI 0), 0) = ((w, nI 0, wia + nI 0, nI 0), 0)
    rw [nI_0, Int32.add_zero]
  | k + 1 => by
    rw [kx_hf, kt_hf w wia k, rx_hf]
    by_cases q : kx_isCell ((rx_hf w k).1 (34 + 2 * k)) = 0
    · rw [if_pos q, if_pos q]
    · rw [if_neg q, if_neg q]
      show (kx_pw ((rx_hf w k).1, nI 0, wia + nI (rx_hf w k).2, nI 0) _ _, _) = _
      rw [kt_pw0]
      show ((_, nI 0, wia + nI (rx_hf w k).2 + nI 1, nI 0), _) = ((_, nI 0, wia + nI ((rx_hf w k).2 + 1), nI 0), _)
      rw [Int32.add_assoc, nI_add]
theorem ko_0 (fo : Nat → Int64) (x : Int64) : vp_updL fo 0 x 0 = x := rfl
abbrev kRM : Room := { frames := 9, cells := 1, slots := 6, locals := 160 }
/-- one call: the law's helper and the reference answer alike, and the states still fit -/
def kSt (l : Launch) (dC : Nat → ClassId) (dI : Nat → Nat → Nat) (cA cL : ClassId) (h0 q0 q1 q2 q3 q4 q5 o0 g0 r1 r2 r3 r4 r5 : Nat) (yL : MethodName) (wL : List Cond) (yX : MethodName) (wX : List Cond) (as : List Value) (fo : Nat → Int64) (w ce nm tl tc tw we wr : Nat → Int32) (T n z : Nat) (wtc wia off cd : Int32) : Prop :=
  ∃ (k : Nat) (b : Int32) (rm : Room) (fo2 : Nat → Int64) (w2 ce2 nm2 tl2 tc2 tw2 we2 wr2 : Nat → Int32) (T2 n2 z2 : Nat) (wtc2 wia2 off2 : Int32), k ≤ 2 ∧
    kMc l yL wL kRM dC dI [(cA, .int), (cL, .long)] (wX0 cA h0 q0 q1 q2 q3 q4 q5 w ce nm tl tc tw T n z wtc wia off ++ wO cL o0 fo) (.ref h0 :: (as ++ [.ref o0])) (nI k) (wX0 cA h0 q0 q1 q2 q3 q4 q5 w2 ce2 nm2 tl2 tc2 tw2 T2 n2 z2 wtc2 wia2 off2 ++ wO cL o0 fo2) ∧
    kMi l yX wX rm dC dI [(cA, .int)] (wX1 cA g0 r1 r2 r3 r4 r5 ce w we wr nm n T cd off wtc wia) (.ref g0 :: as) b (wX1 cA g0 r1 r2 r3 r4 r5 ce2 w2 we2 wr2 nm2 n2 T2 (nI k) off2 wtc2 wia2) ∧ (rm.cells = 0 ∧ rm.slots = 0 ∧ rm.frames ≤ 8 ∧ rm.locals ≤ 130) ∧ (k = 0 → fo2 0 = b.toInt64) ∧ kR ce2 nm2 T2 n2 z2 tl2 tc2 tw2 we2 wr2
