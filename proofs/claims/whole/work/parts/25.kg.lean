/-! going back, and a level that goes up -/
section
variable {ce tl tc tw we wr : Nat → Int32} {n z : Nat} {a b : Nat → Nat}
theorem kg_gb (h : kTa ce n z a b tl tc tw we wr) (hn : n ≤ 88) {lev : Nat} (hl : lev < n) : ∀ (k : Nat) (ce0 : Nat → Int32) (g : Nat), k ≤ z →
    (kx_gb tl tc tw (nI lev) k ce0 g).1 ≤ k ∧ (kx_gb tl tc tw (nI lev) k ce0 g).2.2 = g + (k - (kx_gb tl tc tw (nI lev) k ce0 g).1) ∧ (∀ t, t < (kx_gb tl tc tw (nI lev) k ce0 g).1 → a t < lev) ∧
    (∀ t, (kx_gb tl tc tw (nI lev) k ce0 g).1 ≤ t → t < k → lev ≤ a t) ∧ (∀ c, 32 ≤ c → (kx_gb tl tc tw (nI lev) k ce0 g).2.1 c = ce0 c) ∧
    (∀ c, c < 32 → (∃ t, (kx_gb tl tc tw (nI lev) k ce0 g).1 ≤ t ∧ t < k ∧ b t = c ∧ (∀ u, (kx_gb tl tc tw (nI lev) k ce0 g).1 ≤ u → u < k → b u = c → t ≤ u) ∧ (kx_gb tl tc tw (nI lev) k ce0 g).2.1 c = tw t) ∨
      ((∀ u, (kx_gb tl tc tw (nI lev) k ce0 g).1 ≤ u → u < k → b u ≠ c) ∧ (kx_gb tl tc tw (nI lev) k ce0 g).2.1 c = ce0 c))
  | 0, ce0, g, _ => by
    rw [kx_gb]
    exact ⟨Nat.le_refl _, rfl, fun t ht => absurd ht (Nat.not_lt_zero t), fun t _ ht => absurd ht (Nat.not_lt_zero t), fun c _ => rfl, fun c _ => Or.inr ⟨fun u _ hu => absurd hu (Nat.not_lt_zero u), rfl⟩⟩
  | k + 1, ce0, g, hk => by
    obtain ⟨e1, e2, e3, e4⟩ := h.1 k (by omega)
    rw [kx_gb]
    by_cases q : tl k < nI lev
    · rw [if_pos q]
      have q2 : a k < lev := by
        rw [e1] at q
        exact (nI_ltI (by omega) (by omega)).mp q
      refine ⟨Nat.le_refl _, by show g = g + (k + 1 - (k + 1)); omega, fun t ht => ?_, fun t h1 h2 => ?_, fun c _ => rfl, fun c _ => Or.inr ⟨fun u h1 h2 => ?_, rfl⟩⟩
      · have ht : t < k + 1 := ht
        rcases Nat.decEq t k with r | r
        · have := (h.2.1 t k (by omega) (by omega)).1
          omega
        · rw [r]; exact q2
      · have h1 : k + 1 ≤ t := h1
        omega
      · have h1 : k + 1 ≤ u := h1
        omega
    · rw [if_neg q]
      have q2 : lev ≤ a k := by
        refine Nat.le_of_not_lt (fun r => q ?_)
        rw [e1]
        exact (nI_ltI (by omega) (by omega)).mpr r
      rw [e2, nI_clamp (by omega)]
      obtain ⟨i1, i2, i3, i4, i5, i6⟩ := kg_gb h hn hl k (upd ce0 (b k) (tw k)) (g + 1) (by omega)
      generalize kx_gb tl tc tw (nI lev) k (upd ce0 (b k) (tw k)) (g + 1) = r at i1 i2 i3 i4 i5 i6 ⊢
      refine ⟨by omega, by omega, i3, fun t h1 h2 => ?_, fun c hc => ?_, fun c hc => ?_⟩
      · rcases Nat.decEq t k with s | s
        · exact i4 t h1 (by omega)
        · rw [s]; exact q2
      · rw [i5 c hc, pk_un (by omega)]
      · rcases i6 c hc with ⟨t, t1, t2, t3, t4, t5⟩ | ⟨t1, t2⟩
        · refine Or.inl ⟨t, t1, by omega, t3, fun u u1 u2 u3 => ?_, t5⟩
          rcases Nat.decEq u k with s | s
          · exact t4 u u1 (by omega) u3
          · omega
        · rcases Nat.decEq c (b k) with s | s
          · refine Or.inr ⟨fun u u1 u2 u3 => ?_, by rw [t2, pk_un s]⟩
            rcases Nat.decEq u k with v | v
            · exact t1 u u1 (by omega) u3
            · rw [v] at u3; exact s u3.symm
          · subst s
            refine Or.inl ⟨k, i1, by omega, rfl, fun u u1 u2 u3 => ?_, by rw [t2, pk_us]⟩
            rcases Nat.decEq u k with v | v
            · exact absurd u3 (t1 u u1 (by omega))
            · omega
/-- back to level lev: the count, the cells, the traces that are left -/
theorem kg_back (h : kTa ce n z a b tl tc tw we wr) (hn : n ≤ 88) {lev : Nat} (hl : lev < n) :
    (kx_gb tl tc tw (nI lev) z ce 0).1 ≤ z ∧ (kx_gb tl tc tw (nI lev) z ce 0).2.2 = rx_sm wr lev (n - lev) ∧ (kx_gb tl tc tw (nI lev) z ce 0).2.1 = rx_ce ce we lev 32 ∧
    kTa (rx_ce ce we lev 32) lev (kx_gb tl tc tw (nI lev) z ce 0).1 a b tl tc tw we wr := by
  obtain ⟨i1, i2, i3, i4, i5, i6⟩ := kg_gb h hn hl z ce 0 (Nat.le_refl _)
  have hsm := kct_sm h lev (n - lev) (by omega)
  have hcut := kct_cut (p := fun t => decide (lev ≤ a t) && decide (a t < lev + (n - lev))) (kx_gb tl tc tw (nI lev) z ce 0).1 z i1 (fun t ht => by
    have := i3 t ht
    rw [Bool.eq_false_iff]
    intro hp
    simp only [Bool.and_eq_true, decide_eq_true_eq] at hp
    omega) (fun t t1 t2 => by
    have q1 := i4 t t1 t2
    have q2 := (h.1 t t2).2.2.1
    simp only [Bool.and_eq_true, decide_eq_true_eq]
    omega)
  generalize kx_gb tl tc tw (nI lev) z ce 0 = r at i1 i2 i3 i4 i5 i6 hcut ⊢
  obtain ⟨e0, e1, e2, e3⟩ := h
  have hce : r.2.1 = rx_ce ce we lev 32 := by
    funext j
    rw [rx_ce]
    by_cases hj : j < 32
    · rw [if_pos hj]
      rcases e3 lev j hl hj with ⟨t, t1, t2, t3, t4, t5⟩ | ⟨t1, t2⟩
      · rcases i6 j hj with ⟨s, s1, s2, s3, s4, s5⟩ | ⟨s1, s2⟩
        · have q1 : r.1 ≤ t := Nat.le_of_not_lt (fun q => by have := i3 t q; omega)
          have q2 := s4 t q1 t1 t2
          have q3 := t4 s s2 s3 (i4 s s1 s2)
          have q4 : s = t := by
            rcases Nat.lt_or_ge s t with q | q
            · have q5 := e1 s t q t1
              exact absurd (s3.trans t2.symm) (q5.2 (by omega))
            · omega
          rw [s5, t5, q4]
        · have q1 : r.1 ≤ t := Nat.le_of_not_lt (fun q => by have := i3 t q; omega)
          exact absurd t2 (s1 t q1 t1)
      · rcases i6 j hj with ⟨s, s1, s2, s3, s4, s5⟩ | ⟨s1, s2⟩
        · have q1 := t1 s s2 s3
          have q2 := i4 s s1 s2
          omega
        · rw [s2, t2]
    · rw [if_neg hj]; exact i5 j (by omega)
  refine ⟨i1, by omega, hce, fun t ht => ?_, fun s t hst ht => e1 s t hst (by omega), fun i c hi hc => ?_, fun i c hi hc => ?_⟩
  · obtain ⟨u1, u2, u3, u4⟩ := e0 t (by omega)
    exact ⟨u1, u2, i3 t ht, u4⟩
  · rw [e2 i c (by omega) hc]
    constructor
    · rintro ⟨t, t1, t2, t3⟩
      refine ⟨t, Nat.lt_of_not_le (fun q => ?_), t2, t3⟩
      have := i4 t q t1
      omega
    · rintro ⟨t, t1, t2, t3⟩
      exact ⟨t, by omega, t2, t3⟩
  · rw [← hce]
    rcases e3 i c (by omega) hc with ⟨t, t1, t2, t3, t4, t5⟩ | ⟨t1, t2⟩
    · by_cases q : t < r.1
      · exact Or.inl ⟨t, q, t2, t3, fun u u1 u2 u3 => t4 u (by omega) u2 u3, t5⟩
      · have q1 := i4 t (by omega) t1
        refine Or.inr ⟨fun u u1 u2 => Nat.lt_of_not_le (fun q2 => ?_), ?_⟩
        · have q3 := t4 u (by omega) u2 q2
          have q4 := i3 u u1
          omega
        · rcases i6 c hc with ⟨s, s1, s2, s3, s4, s5⟩ | ⟨s1, s2⟩
          · have q2 := s4 t (by omega) t1 t2
            have q3 := t4 s s2 s3 (by have := i4 s s1 s2; omega)
            have q4 : s = t := by
              rcases Nat.lt_or_ge s t with q5 | q5
              · have q6 := e1 s t q5 t1
                exact absurd (s3.trans t2.symm) (q6.2 (by omega))
              · omega
            rw [s5, t5, q4]
          · exact absurd t2 (s1 t (by omega) t1)
    · refine Or.inr ⟨fun u u1 u2 => t1 u (by omega) u2, ?_⟩
      rcases i6 c hc with ⟨s, s1, s2, s3, s4, s5⟩ | ⟨s1, s2⟩
      · have q1 := t1 s s2 s3
        have q2 := i4 s s1 s2
        omega
      · rw [s2, t2]
/-! a level goes up in the one before -/
def kg (lev x : Nat) : Nat := if x < lev then x else x - 1
def kkeep (z : Nat) (a b : Nat → Nat) (lev u : Nat) : Prop := ¬ (a u = lev ∧ ∃ x, x < z ∧ a x = lev - 1 ∧ b x = b u)
theorem kg_fo (h : kTa ce n z a b tl tc tw we wr) (hn : n ≤ 88) {lev : Nat} (hl0 : 1 ≤ lev) (hl : lev < n) (bef : Int32) (hbef : ∀ c, c < 32 → (¬ kx_holds bef (nI c) = 0 ↔ ∃ x, x < z ∧ a x = lev - 1 ∧ b x = c)) : ∀ t, t ≤ z → ∃ a' b' : Nat → Nat,
    (∀ s, t ≤ s → (kx_fo bef (nI lev) tl tc tw t).2.1 s = tl s ∧ (kx_fo bef (nI lev) tl tc tw t).2.2.1 s = tc s ∧ (kx_fo bef (nI lev) tl tc tw t).2.2.2 s = tw s) ∧
    (∀ s, s < (kx_fo bef (nI lev) tl tc tw t).1 → (kx_fo bef (nI lev) tl tc tw t).2.1 s = nI (a' s) ∧ (kx_fo bef (nI lev) tl tc tw t).2.2.1 s = nI (b' s)) ∧
    (∀ s, s < (kx_fo bef (nI lev) tl tc tw t).1 → ∃ u, u < t ∧ kkeep z a b lev u ∧ a' s = kg lev (a u) ∧ b' s = b u ∧ (kx_fo bef (nI lev) tl tc tw t).2.2.2 s = tw u) ∧
    (∀ u, u < t → kkeep z a b lev u → ∃ s, s < (kx_fo bef (nI lev) tl tc tw t).1 ∧ a' s = kg lev (a u) ∧ b' s = b u ∧ (kx_fo bef (nI lev) tl tc tw t).2.2.2 s = tw u) ∧
    (∀ s s', s < s' → s' < (kx_fo bef (nI lev) tl tc tw t).1 → a' s ≤ a' s' ∧ (a' s = a' s' → b' s ≠ b' s'))
  | 0, _ => by
    rw [kx_fo]
    exact ⟨a, b, fun s _ => ⟨rfl, rfl, rfl⟩, fun s hs => absurd hs (Nat.not_lt_zero s), fun s hs => absurd hs (Nat.not_lt_zero s), fun u hu => absurd hu (Nat.not_lt_zero u), fun s s' _ hs => absurd hs (Nat.not_lt_zero s')⟩
  | t + 1, ht => by
    obtain ⟨a', b', p1, p2, p3, p4, p5⟩ := kg_fo h hn hl0 hl bef hbef t (by omega)
    have hle := kx_fo_le bef (nI lev) tl tc tw t
    rw [kx_fo]
    generalize kx_fo bef (nI lev) tl tc tw t = F at p1 p2 p3 p4 p5 hle ⊢
    obtain ⟨q1, q2, q3⟩ := p1 t (Nat.le_refl _)
    obtain ⟨e1, e2, e3, e4⟩ := h.1 t (by omega)
    rw [q1, q2, q3, e1, e2]
    have hC : (nI (a t) = nI lev ∧ ¬ kx_holds bef (nI (b t)) = 0) ↔ ¬ kkeep z a b lev t := by
      rw [hbef (b t) e4, nI_eq (by omega) (by omega), kkeep, Classical.not_not]
    by_cases c : nI (a t) = nI lev ∧ ¬ kx_holds bef (nI (b t)) = 0
    · rw [if_pos c]
      have ck := hC.mp c
      refine ⟨a', b', fun s hs => p1 s (by omega), p2, fun s hs => ?_, fun u hu hk => ?_, p5⟩
      · obtain ⟨u, u1, u2⟩ := p3 s hs
        exact ⟨u, by omega, u2⟩
      · rcases Nat.decEq u t with r | r
        · exact p4 u (by omega) hk
        · rw [r] at hk; exact absurd hk ck
    · rw [if_neg c]
      have ck : kkeep z a b lev t := Classical.not_not.mp (fun q => c (hC.mpr q))
      have elev : (if nI lev ≤ nI (a t) then nI (a t) - nI 1 else nI (a t)) = nI (kg lev (a t)) := by
        by_cases r : lev ≤ a t
        · rw [if_pos ((nI_leI (by omega) (by omega)).mpr r), kg, if_neg (by omega), pk_sub (by omega)]
        · rw [if_neg (fun s => r ((nI_leI (by omega) (by omega)).mp s)), kg, if_pos (by omega)]
      rw [elev]
      have sk : ∀ s, s < F.1 → s ≠ F.1 := fun s hs => by omega
      refine ⟨fun s => if s = F.1 then kg lev (a t) else a' s, fun s => if s = F.1 then b t else b' s, fun s hs => ?_, fun s hs => ?_, fun s hs => ?_, fun u hu hk => ?_, fun s s' hss hs => ?_⟩
      · show upd F.2.1 F.1 _ s = tl s ∧ upd F.2.2.1 F.1 _ s = tc s ∧ upd F.2.2.2 F.1 _ s = tw s
        rw [pk_un (by omega), pk_un (by omega), pk_un (by omega)]
        exact p1 s (by omega)
      · have hs : s < F.1 + 1 := hs
        show upd F.2.1 F.1 _ s = nI (if s = F.1 then kg lev (a t) else a' s) ∧ upd F.2.2.1 F.1 _ s = nI (if s = F.1 then b t else b' s)
        rcases Nat.decEq s F.1 with r | r
        · rw [pk_un r, pk_un r, if_neg r, if_neg r]; exact p2 s (by omega)
        · subst r; rw [pk_us, pk_us, if_pos rfl, if_pos rfl]; exact ⟨rfl, rfl⟩
      · have hs : s < F.1 + 1 := hs
        show ∃ u, u < t + 1 ∧ kkeep z a b lev u ∧ (if s = F.1 then kg lev (a t) else a' s) = kg lev (a u) ∧ (if s = F.1 then b t else b' s) = b u ∧ upd F.2.2.2 F.1 (tw t) s = tw u
        rcases Nat.decEq s F.1 with r | r
        · rw [pk_un r, if_neg r, if_neg r]
          obtain ⟨u, u1, u2⟩ := p3 s (by omega)
          exact ⟨u, by omega, u2⟩
        · subst r; rw [pk_us, if_pos rfl, if_pos rfl]; exact ⟨t, by omega, ck, rfl, rfl, rfl⟩
      · show ∃ s, s < F.1 + 1 ∧ (if s = F.1 then kg lev (a t) else a' s) = kg lev (a u) ∧ (if s = F.1 then b t else b' s) = b u ∧ upd F.2.2.2 F.1 (tw t) s = tw u
        rcases Nat.decEq u t with r | r
        · obtain ⟨s, s1, s2, s3, s4⟩ := p4 u (by omega) hk
          exact ⟨s, by omega, by rw [if_neg (sk s s1)]; exact s2, by rw [if_neg (sk s s1)]; exact s3, by rw [pk_un (sk s s1)]; exact s4⟩
        · subst r; exact ⟨F.1, by omega, if_pos rfl, if_pos rfl, pk_us⟩
      · have hs : s' < F.1 + 1 := hs
        show (if s = F.1 then kg lev (a t) else a' s) ≤ (if s' = F.1 then kg lev (a t) else a' s') ∧ ((if s = F.1 then kg lev (a t) else a' s) = (if s' = F.1 then kg lev (a t) else a' s') → (if s = F.1 then b t else b' s) ≠ (if s' = F.1 then b t else b' s'))
        rw [if_neg (by omega : ¬ s = F.1), if_neg (by omega : ¬ s = F.1)]
        rcases Nat.decEq s' F.1 with r | r
        · rw [if_neg r, if_neg r]; exact p5 s s' hss (by omega)
        · rw [if_pos r, if_pos r]
          obtain ⟨u, u1, u2, u3, u4, u5⟩ := p3 s (by omega)
          have w1 := h.2.1 u t u1 (by omega)
          rw [u3, u4]
          have w2 : kg lev (a u) ≤ kg lev (a t) := by
            rw [kg, kg]
            split <;> split <;> omega
          refine ⟨w2, fun w3 w4 => ?_⟩
          have w5 : a u ≠ a t := fun w6 => w1.2 w6 w4
          have w6 : a u = lev - 1 ∧ a t = lev := by
            rw [kg, kg] at w3
            by_cases x1 : a u < lev
            · by_cases x2 : a t < lev
              · rw [if_pos x1, if_pos x2] at w3; omega
              · rw [if_pos x1, if_neg x2] at w3; omega
            · rw [if_neg x1, if_neg (by omega)] at w3; omega
          exact ck ⟨w6.2, u, by omega, w6.1, w4⟩
theorem kg_fold (h : kTa ce n z a b tl tc tw we wr) (hn : n ≤ 88) {lev : Nat} (hl0 : 1 ≤ lev) (hl : lev < n) : ∃ a' b' : Nat → Nat,
    kTa ce (n - 1) (kx_fo (kx_tc tl tc (nI (lev - 1)) z) (nI lev) tl tc tw z).1 a' b' (kx_fo (kx_tc tl tc (nI (lev - 1)) z) (nI lev) tl tc tw z).2.1 (kx_fo (kx_tc tl tc (nI (lev - 1)) z) (nI lev) tl tc tw z).2.2.1 (kx_fo (kx_tc tl tc (nI (lev - 1)) z) (nI lev) tl tc tw z).2.2.2
      (rx_sw we lev (32 * (n - 1))) (kx_sh (upd wr (lev - 1) (wr (lev - 1) ||| wr lev)) lev n) := by
  have hbef : ∀ c, c < 32 → (¬ kx_holds (kx_tc tl tc (nI (lev - 1)) z) (nI c) = 0 ↔ ∃ x, x < z ∧ a x = lev - 1 ∧ b x = c) := fun c hc => by
    rw [← kTa_tc h hn (by omega : lev - 1 < n) hc z (Nat.le_refl _), mb_holds0 _ hc, mo_b]
    by_cases q : bt (kx_tc tl tc (nI (lev - 1)) z) c = true
    · rw [if_pos q]; exact ⟨fun _ => q, fun _ => by omega⟩
    · rw [if_neg q]; exact ⟨fun r => absurd rfl r, fun r => absurd r q⟩
  obtain ⟨a', b', p1, p2, p3, p4, p5⟩ := kg_fo h hn hl0 hl _ hbef z (Nat.le_refl _)
  generalize kx_fo (kx_tc tl tc (nI (lev - 1)) z) (nI lev) tl tc tw z = F at p1 p2 p3 p4 p5 ⊢
  obtain ⟨e0, e1, e2, e3⟩ := h
  refine ⟨a', b', fun s hs => ?_, p5, fun i c hi hc => ?_, fun i c hi hc => ?_⟩
  · obtain ⟨u, u1, u2, u3, u4, u5⟩ := p3 s hs
    obtain ⟨w1, w2, w3, w4⟩ := e0 u u1
    refine ⟨(p2 s hs).1, (p2 s hs).2, ?_, by rw [u4]; exact w4⟩
    rw [u3, kg]
    split <;> omega
  · have hex : (∃ s, s < F.1 ∧ a' s = i ∧ b' s = c) ↔ ∃ u, u < z ∧ kkeep z a b lev u ∧ kg lev (a u) = i ∧ b u = c := by
      constructor
      · rintro ⟨s, s1, s2, s3⟩
        obtain ⟨u, u1, u2, u3, u4, u5⟩ := p3 s s1
        exact ⟨u, u1, u2, by omega, by omega⟩
      · rintro ⟨u, u1, u2, u3, u4⟩
        obtain ⟨s, s1, s2, s3, s4⟩ := p4 u u1 u2
        exact ⟨s, s1, by omega, by omega⟩
    rw [hex, kx_sh_at _ lev n i (by omega)]
    by_cases q : lev ≤ i
    · rw [if_pos q, pk_un (by omega), e2 (i + 1) c (by omega) hc]
      constructor
      · rintro ⟨u, u1, u2, u3⟩
        exact ⟨u, u1, fun r => by omega, by rw [kg, if_neg (by omega)]; omega, u3⟩
      · rintro ⟨u, u1, u2, u3, u4⟩
        refine ⟨u, u1, ?_, u4⟩
        rw [kg] at u3
        by_cases r : a u < lev
        · rw [if_pos r] at u3; omega
        · rw [if_neg r] at u3; omega
    · rw [if_neg q]
      rcases Nat.decEq i (lev - 1) with q2 | q2
      · rw [pk_un q2, e2 i c (by omega) hc]
        constructor
        · rintro ⟨u, u1, u2, u3⟩
          exact ⟨u, u1, fun r => by omega, by rw [kg, if_pos (by omega)]; exact u2, u3⟩
        · rintro ⟨u, u1, u2, u3, u4⟩
          refine ⟨u, u1, ?_, u4⟩
          rw [kg] at u3
          by_cases r : a u < lev
          · rw [if_pos r] at u3; exact u3
          · rw [if_neg r] at u3; omega
      · subst q2
        rw [pk_us, b_or, Bool.or_eq_true, e2 (lev - 1) c (by omega) hc, e2 lev c hl hc]
        constructor
        · rintro (⟨u, u1, u2, u3⟩ | ⟨u, u1, u2, u3⟩)
          · exact ⟨u, u1, fun r => by omega, by rw [kg, if_pos (by omega)]; exact u2, u3⟩
          · by_cases r : kkeep z a b lev u
            · exact ⟨u, u1, r, by rw [kg, if_neg (by omega)]; omega, u3⟩
            · obtain ⟨-, x, x1, x2, x3⟩ := Classical.not_not.mp r
              exact ⟨x, x1, fun r => by omega, by rw [kg, if_pos (by omega)]; exact x2, by omega⟩
        · rintro ⟨u, u1, u2, u3, u4⟩
          rw [kg] at u3
          by_cases r : a u < lev
          · rw [if_pos r] at u3; exact Or.inl ⟨u, u1, u3, u4⟩
          · rw [if_neg r] at u3; exact Or.inr ⟨u, u1, by omega, u4⟩
  · obtain ⟨I, hI⟩ : ∃ I, I = if i < lev then i else i + 1 := ⟨_, rfl⟩
    have hIn : I < n := by rw [hI]; split <;> omega
    have hIg : ∀ x, i ≤ kg lev x ↔ I ≤ x := fun x => by
      rw [hI, kg]
      split <;> split <;> omega
    have hw : rx_sw we lev (32 * (n - 1)) (32 * i + c) = we (32 * I + c) := by
      rw [rx_sw, hI]
      by_cases r : i < lev
      · rw [if_neg (by omega), if_pos r]
      · rw [if_pos (by omega), if_neg r]
        congr 1
        omega
    rw [hw]
    rcases e3 I c hIn hc with ⟨t, t1, t2, t3, t4, t5⟩ | ⟨t1, t2⟩
    · have hk : kkeep z a b lev t := by
        rintro ⟨r1, x, x1, x2, x3⟩
        by_cases r : i < lev
        · have : I ≤ a x := by rw [hI, if_pos r]; omega
          have := t4 x x1 (by omega) this
          omega
        · rw [hI, if_neg r] at t3; omega
      obtain ⟨s, s1, s2, s3, s4⟩ := p4 t t1 hk
      refine Or.inl ⟨s, s1, by omega, by rw [s2]; exact (hIg _).mpr t3, fun s' r1 r2 r3 => ?_, by rw [t5, s4]⟩
      obtain ⟨u, u1, u2, u3, u4, u5⟩ := p3 s' r1
      rw [u3] at r3 ⊢
      rw [s2]
      have := t4 u u1 (by omega) ((hIg _).mp r3)
      rw [kg, kg]
      split <;> split <;> omega
    · refine Or.inr ⟨fun s r1 r2 => ?_, t2⟩
      obtain ⟨u, u1, u2, u3, u4, u5⟩ := p3 s r1
      have := t1 u u1 (by omega)
      rw [u3]
      refine Nat.lt_of_not_le (fun q => ?_)
      have := (hIg _).mp q
      omega
end
