/-! traces against masks and rows of cells -/
/-- what the cell c is behind going back to level i -/
def kV (ce : Nat → Int32) (z : Nat) (a b : Nat → Nat) (tw : Nat → Int32) (i c : Nat) (v : Int32) : Prop :=
  (∃ t, t < z ∧ b t = c ∧ i ≤ a t ∧ (∀ u, u < z → b u = c → i ≤ a u → a t ≤ a u) ∧ v = tw t) ∨ ((∀ u, u < z → b u = c → a u < i) ∧ v = ce c)
def kTa (ce : Nat → Int32) (n z : Nat) (a b : Nat → Nat) (tl tc tw we wr : Nat → Int32) : Prop :=
  (∀ t, t < z → tl t = nI (a t) ∧ tc t = nI (b t) ∧ a t < n ∧ b t < 32) ∧ (∀ s t, s < t → t < z → a s ≤ a t ∧ (a s = a t → b s ≠ b t)) ∧
  (∀ i c, i < n → c < 32 → (bt (wr i) c = true ↔ ∃ t, t < z ∧ a t = i ∧ b t = c)) ∧ (∀ i c, i < n → c < 32 → kV ce z a b tw i c (we (32 * i + c)))
def kT (ce : Nat → Int32) (n z : Nat) (tl tc tw we wr : Nat → Int32) : Prop := z ≤ 60 ∧ ∃ a b : Nat → Nat, kTa ce n z a b tl tc tw we wr
section
variable {ce tl tc tw we wr : Nat → Int32} {n z : Nat} {a b : Nat → Nat}
theorem kTa_uni (h : kTa ce n z a b tl tc tw we wr) {s t : Nat} (hs : s < z) (ht : t < z) (h1 : a s = a t) (h2 : b s = b t) : s = t := by
  rcases Nat.lt_trichotomy s t with q | q | q
  · exact absurd h2 ((h.2.1 s t q ht).2 h1)
  · exact q
  · exact absurd h2.symm ((h.2.1 t s q hs).2 h1.symm)
theorem kb_bit {k c : Nat} (hk : k < 32) (hc : c < 32) : bt ((nI 1) <<< ((nI k) &&& 31)) c = true ↔ k = c := by
  rw [b_shl k hk _ hc, mb_1 (c - k) (by omega)]
  simp only [Bool.and_eq_true, decide_eq_true_eq]
  omega
theorem kTa_tc (h : kTa ce n z a b tl tc tw we wr) (hn : n ≤ 88) {i c : Nat} (hi : i < n) (hc : c < 32) : ∀ k, k ≤ z → (bt (kx_tc tl tc (nI i) k) c = true ↔ ∃ t, t < k ∧ a t = i ∧ b t = c)
  | 0, _ => by
    rw [kx_tc]
    constructor
    · intro q; rw [b_0] at q; exact absurd q (by decide)
    · rintro ⟨t, ht, -⟩; omega
  | k + 1, hk => by
    have ih := kTa_tc h hn hi hc k (by omega)
    obtain ⟨e1, e2, e3, e4⟩ := h.1 k (by omega)
    rw [kx_tc]
    by_cases q : tl k = nI i
    · rw [if_pos q, b_or, Bool.or_eq_true, ih, e2, kb_bit e4 hc]
      have e : a k = i := by
        rw [e1] at q
        exact (nI_eq (by omega) (by omega)).mp q
      constructor
      · rintro (⟨t, ht, h1, h2⟩ | h1)
        · exact ⟨t, by omega, h1, h2⟩
        · exact ⟨k, by omega, e, h1⟩
      · rintro ⟨t, ht, h1, h2⟩
        rcases Nat.decEq t k with r | r
        · exact Or.inl ⟨t, by omega, h1, h2⟩
        · subst r; exact Or.inr h2
    · rw [if_neg q, ih]
      have e : a k ≠ i := fun r => q (by rw [e1, r])
      constructor
      · rintro ⟨t, ht, h1, h2⟩; exact ⟨t, by omega, h1, h2⟩
      · rintro ⟨t, ht, h1, h2⟩
        rcases Nat.decEq t k with r | r
        · exact ⟨t, by omega, h1, h2⟩
        · subst r; exact absurd h1 e
theorem kTa_mask (h : kTa ce n z a b tl tc tw we wr) (hn : n ≤ 88) {i : Nat} (hi : i < n) : kx_tc tl tc (nI i) z = wr i := by
  apply b_ext
  intro c hc
  rw [Bool.eq_iff_iff, kTa_tc h hn hi hc z (Nat.le_refl _), h.2.2.1 i c hi hc]
/-! how many -/
def kct (p : Nat → Bool) : Nat → Nat
  | 0 => 0
  | k + 1 => kct p k + (p k).toNat
theorem kct_congr {p q : Nat → Bool} : ∀ k, (∀ t, t < k → p t = q t) → kct p k = kct q k
  | 0, _ => rfl
  | k + 1, h => by rw [kct, kct, kct_congr k (fun t ht => h t (by omega)), h k (by omega)]
theorem kct_add {p q r : Nat → Bool} : ∀ k, (∀ t, t < k → (p t).toNat = (q t).toNat + (r t).toNat) → kct p k = kct q k + kct r k
  | 0, _ => rfl
  | k + 1, h => by
    have h1 := kct_add k (fun t ht => h t (by omega))
    have h2 := h k (by omega)
    rw [kct, kct, kct]
    omega
theorem kct_0 {p : Nat → Bool} : ∀ k, (∀ t, t < k → p t = false) → kct p k = 0
  | 0, _ => rfl
  | k + 1, h => by rw [kct, kct_0 k (fun t ht => h t (by omega)), h k (by omega)]; rfl
theorem kct_all {p : Nat → Bool} : ∀ k, (∀ t, t < k → p t = true) → kct p k = k
  | 0, _ => rfl
  | k + 1, h => by rw [kct, kct_all k (fun t ht => h t (by omega)), h k (by omega)]; rfl
theorem kct_1 {p : Nat → Bool} (t0 : Nat) : ∀ k, t0 < k → p t0 = true → (∀ t, t < k → p t = true → t = t0) → kct p k = 1
  | 0, h, _, _ => absurd h (by omega)
  | k + 1, h, h1, h2 => by
    rw [kct]
    rcases Nat.decEq t0 k with q | q
    · have h3 : p k = false := by
        cases h4 : p k with
        | false => rfl
        | true => exact absurd (h2 k (by omega) h4) (fun r => q r.symm)
      rw [kct_1 t0 k (by omega) h1 (fun t ht => h2 t (by omega)), h3]; rfl
    · subst q
      rw [kct_0 t0 (fun t ht => by
        cases h4 : p t with
        | false => rfl
        | true => exact absurd (h2 t (by omega) h4) (by omega)), h1]; rfl
theorem kct_cut {p : Nat → Bool} (z1 : Nat) : ∀ k, z1 ≤ k → (∀ t, t < z1 → p t = false) → (∀ t, z1 ≤ t → t < k → p t = true) → kct p k = k - z1
  | 0, h, _, _ => by rw [kct]; omega
  | k + 1, h, h1, h2 => by
    by_cases q : z1 = k + 1
    · rw [kct_0 (k + 1) (fun t ht => h1 t (by omega))]; omega
    · rw [kct, kct_cut z1 k (by omega) h1 (fun t h3 h4 => h2 t h3 (by omega)), h2 k (by omega) (by omega)]
      show k - z1 + 1 = _
      omega
theorem kct_cell (h : kTa ce n z a b tl tc tw we wr) {i c : Nat} (hi : i < n) (hc : c < 32) : kct (fun t => decide (a t = i) && decide (b t = c)) z = mo_b (wr i) c := by
  have h1 := h.2.2.1 i c hi hc
  rw [mo_b]
  by_cases q : bt (wr i) c = true
  · rw [if_pos q]
    obtain ⟨t0, h0, e1, e2⟩ := h1.mp q
    refine kct_1 t0 z h0 (by simp [e1, e2]) (fun t ht hp => ?_)
    simp only [Bool.and_eq_true, decide_eq_true_eq] at hp
    exact kTa_uni h ht h0 (hp.1.trans e1.symm) (hp.2.trans e2.symm)
  · rw [if_neg q]
    refine kct_0 z (fun t ht => ?_)
    rw [Bool.eq_false_iff]
    intro hp
    simp only [Bool.and_eq_true, decide_eq_true_eq] at hp
    exact q (h1.mpr ⟨t, ht, hp.1, hp.2⟩)
theorem kct_mask (h : kTa ce n z a b tl tc tw we wr) {i : Nat} (hi : i < n) : ∀ k, k ≤ 32 → kct (fun t => decide (a t = i) && decide (b t < k)) z = mo_bits (wr i) k
  | 0, _ => by
    rw [mo_bits]
    exact kct_0 z (fun t ht => by simp)
  | k + 1, hk => by
    rw [mo_bits, ← kct_mask h hi k (by omega), ← kct_cell h hi (by omega : k < 32)]
    refine kct_add z (fun t ht => ?_)
    by_cases h1 : a t = i
    · by_cases h2 : b t < k
      · simp [h1, h2, (by omega : b t < k + 1), (by omega : ¬ b t = k)] <;> omega
      · by_cases h3 : b t = k
        · simp [h1, h3]
        · simp [h1, h2, h3, (by omega : ¬ b t < k + 1)] <;> omega
    · simp [h1]
theorem kct_lev (h : kTa ce n z a b tl tc tw we wr) {i : Nat} (hi : i < n) : kct (fun t => decide (a t = i)) z = mo_bits (wr i) 32 := by
  rw [← kct_mask h hi 32 (Nat.le_refl _)]
  exact kct_congr z (fun t ht => by simp [(h.1 t ht).2.2.2])
theorem kct_tr (h : kTa ce n z a b tl tc tw we wr) : ∀ k, k ≤ n → kct (fun t => decide (a t < k)) z = rx_tr wr k
  | 0, _ => by
    rw [rx_tr]
    exact kct_0 z (fun t ht => by simp)
  | k + 1, hk => by
    rw [rx_tr, ← kct_tr h k (by omega), ← kct_lev h (by omega : k < n)]
    refine kct_add z (fun t ht => ?_)
    by_cases h2 : a t < k
    · simp [h2, (by omega : a t < k + 1), (by omega : ¬ a t = k)] <;> omega
    · by_cases h3 : a t = k
      · simp [h3]
      · simp [h2, h3, (by omega : ¬ a t < k + 1)] <;> omega
theorem kTa_len (h : kTa ce n z a b tl tc tw we wr) : z = rx_tr wr n := by
  rw [← kct_tr h n (Nat.le_refl _)]
  exact (kct_all z (fun t ht => by simp [(h.1 t ht).2.2.1])).symm
theorem kct_sm (h : kTa ce n z a b tl tc tw we wr) (lev : Nat) : ∀ d, lev + d ≤ n → kct (fun t => decide (lev ≤ a t) && decide (a t < lev + d)) z = rx_sm wr lev d
  | 0, _ => by
    rw [rx_sm]
    exact kct_0 z (fun t ht => by
      rw [Bool.eq_false_iff]
      intro hp
      simp only [Bool.and_eq_true, decide_eq_true_eq] at hp
      omega)
  | d + 1, hd => by
    rw [rx_sm, ← kct_sm h lev d (by omega), ← kct_lev h (by omega : lev + d < n)]
    refine kct_add z (fun t ht => ?_)
    by_cases h1 : lev ≤ a t
    · by_cases h2 : a t < lev + d
      · simp [h1, h2, (by omega : a t < lev + (d + 1)), (by omega : ¬ a t = lev + d)] <;> omega
      · by_cases h3 : a t = lev + d
        · simp [h3]
        · simp [h2, h3, (by omega : ¬ a t < lev + (d + 1))] <;> omega
    · have h9 : ¬ a t = lev + d := by omega
      simp [h1, h9]
/-! a level is opened -/
theorem kTa_open {we' wr' : Nat → Int32} (h : kTa ce n z a b tl tc tw we wr) (h1 : ∀ j, j < 32 * n → we' j = we j) (h2 : ∀ c, c < 32 → we' (32 * n + c) = ce c) (h3 : ∀ i, i < n → wr' i = wr i) (h4 : wr' n = nI 0) : kTa ce (n + 1) z a b tl tc tw we' wr' := by
  obtain ⟨e0, e1, e2, e3⟩ := h
  refine ⟨fun t ht => ?_, e1, fun i c hi hc => ?_, fun i c hi hc => ?_⟩
  · obtain ⟨u1, u2, u3, u4⟩ := e0 t ht
    exact ⟨u1, u2, by omega, u4⟩
  · rcases Nat.decEq i n with q | q
    · rw [h3 i (by omega)]; exact e2 i c (by omega) hc
    · subst q
      rw [h4, nI_0, b_0]
      constructor
      · intro r; exact absurd r (by decide)
      · rintro ⟨t, ht, r, -⟩
        have := (e0 t ht).2.2.1
        omega
  · rcases Nat.decEq i n with q | q
    · rw [h1 _ (by omega)]; exact e3 i c (by omega) hc
    · subst q
      rw [h2 c hc]
      exact Or.inr ⟨fun u hu _ => (e0 u hu).2.2.1, rfl⟩
/-! a cell is written -/
theorem kTa_wt {cell : Nat} {v : Int32} (h : kTa ce n z a b tl tc tw we wr) (hc0 : cell < 32) (hm : mo_b (wr (n - 1)) cell = 1) (hn : 0 < n) : kTa (upd ce cell v) n z a b tl tc tw we (upd wr (n - 1) (wr (n - 1) ||| ((nI 1) <<< ((nI cell) &&& 31)))) := by
  obtain ⟨e0, e1, e2, e3⟩ := h
  have hb : bt (wr (n - 1)) cell = true := by
    rw [mo_b] at hm
    by_cases q : bt (wr (n - 1)) cell = true
    · exact q
    · rw [if_neg q] at hm; omega
  obtain ⟨t0, h0, h1, h2⟩ := (e2 (n - 1) cell (by omega) hc0).mp hb
  refine ⟨e0, e1, fun i c hi hc => ?_, fun i c hi hc => ?_⟩
  · rcases Nat.decEq i (n - 1) with q | q
    · rw [pk_un q]; exact e2 i c hi hc
    · subst q
      rw [pk_us, b_or, Bool.or_eq_true, kb_bit hc0 hc, e2 (n - 1) c hi hc]
      constructor
      · rintro (r | r)
        · exact r
        · exact ⟨t0, h0, h1, by omega⟩
      · intro r; exact Or.inl r
  · rcases e3 i c hi hc with q | ⟨q1, q2⟩
    · exact Or.inl q
    · refine Or.inr ⟨q1, ?_⟩
      rw [pk_un, q2]
      intro r
      have := q1 t0 h0 (by omega)
      omega
theorem kTa_wu {cell : Nat} {v : Int32} (h : kTa ce n z a b tl tc tw we wr) (hc0 : cell < 32) (hm : mo_b (wr (n - 1)) cell = 0) (hn : 0 < n) :
    kTa (upd ce cell v) n (z + 1) (fun t => if t = z then n - 1 else a t) (fun t => if t = z then cell else b t) (upd tl z (nI (n - 1))) (upd tc z (nI cell)) (upd tw z (ce cell)) we (upd wr (n - 1) (wr (n - 1) ||| ((nI 1) <<< ((nI cell) &&& 31)))) := by
  obtain ⟨e0, e1, e2, e3⟩ := h
  have hb : ¬ bt (wr (n - 1)) cell = true := by
    intro q
    rw [mo_b, if_pos q] at hm
    omega
  have hno : ∀ t, t < z → a t = n - 1 → b t ≠ cell := fun t ht h1 h2 => hb ((e2 (n - 1) cell (by omega) hc0).mpr ⟨t, ht, h1, h2⟩)
  have az : ∀ t, t < z → (if t = z then n - 1 else a t) = a t := fun t ht => if_neg (by omega)
  have bz : ∀ t, t < z → (if t = z then cell else b t) = b t := fun t ht => if_neg (by omega)
  have az0 : (if z = z then n - 1 else a z) = n - 1 := if_pos rfl
  have bz0 : (if z = z then cell else b z) = cell := if_pos rfl
  refine ⟨fun t ht => ?_, fun s t hst ht => ?_, fun i c hi hc => ?_, fun i c hi hc => ?_⟩
  · rcases Nat.decEq t z with q | q
    · rw [pk_un q, pk_un q]
      show _ = nI (if t = z then n - 1 else a t) ∧ _ = nI (if t = z then cell else b t) ∧ (if t = z then n - 1 else a t) < n ∧ (if t = z then cell else b t) < 32
      rw [if_neg q, if_neg q]
      exact e0 t (by omega)
    · subst q
      rw [pk_us, pk_us]
      show _ = nI (if t = t then n - 1 else a t) ∧ _ = nI (if t = t then cell else b t) ∧ (if t = t then n - 1 else a t) < n ∧ (if t = t then cell else b t) < 32
      rw [if_pos rfl, if_pos rfl]
      exact ⟨rfl, rfl, by omega, hc0⟩
  · show (if s = z then n - 1 else a s) ≤ (if t = z then n - 1 else a t) ∧ ((if s = z then n - 1 else a s) = (if t = z then n - 1 else a t) → (if s = z then cell else b s) ≠ (if t = z then cell else b t))
    rw [az s (by omega), bz s (by omega)]
    rcases Nat.decEq t z with q | q
    · rw [if_neg q, if_neg q]; exact e1 s t hst (by omega)
    · rw [if_pos q, if_pos q]
      have := (e0 s (by omega)).2.2.1
      exact ⟨by omega, fun r => hno s (by omega) r⟩
  · have ex : (∃ t, t < z + 1 ∧ (if t = z then n - 1 else a t) = i ∧ (if t = z then cell else b t) = c) ↔ ((∃ t, t < z ∧ a t = i ∧ b t = c) ∨ (n - 1 = i ∧ cell = c)) := by
      constructor
      · rintro ⟨t, ht, r1, r2⟩
        rcases Nat.decEq t z with q | q
        · rw [if_neg q] at r1 r2; exact Or.inl ⟨t, by omega, r1, r2⟩
        · rw [if_pos q] at r1 r2; exact Or.inr ⟨r1, r2⟩
      · rintro (⟨t, ht, r1, r2⟩ | ⟨r1, r2⟩)
        · exact ⟨t, by omega, by rw [az t ht]; exact r1, by rw [bz t ht]; exact r2⟩
        · exact ⟨z, by omega, by rw [az0]; exact r1, by rw [bz0]; exact r2⟩
    show _ ↔ ∃ t, t < z + 1 ∧ (if t = z then n - 1 else a t) = i ∧ (if t = z then cell else b t) = c
    rw [ex]
    rcases Nat.decEq i (n - 1) with q | q
    · rw [pk_un q, e2 i c hi hc]
      constructor
      · intro r; exact Or.inl r
      · rintro (r | ⟨r, -⟩)
        · exact r
        · omega
    · subst q
      rw [pk_us, b_or, Bool.or_eq_true, kb_bit hc0 hc, e2 (n - 1) c hi hc]
      constructor
      · rintro (r | r)
        · exact Or.inl r
        · exact Or.inr ⟨rfl, r⟩
      · rintro (r | ⟨-, r⟩)
        · exact Or.inl r
        · exact Or.inr r
  · rcases e3 i c hi hc with ⟨t, ht, q1, q2, q3, q4⟩ | ⟨q1, q2⟩
    · refine Or.inl ⟨t, by omega, ?_, ?_, fun u hu r1 r2 => ?_, ?_⟩
      · show (if t = z then cell else b t) = c
        rw [bz t ht]; exact q1
      · show i ≤ (if t = z then n - 1 else a t)
        rw [az t ht]; exact q2
      · have r1 : (if u = z then cell else b u) = c := r1
        have r2 : i ≤ (if u = z then n - 1 else a u) := r2
        show (if t = z then n - 1 else a t) ≤ (if u = z then n - 1 else a u)
        rw [az t ht]
        rcases Nat.decEq u z with q | q
        · rw [if_neg q] at r1 r2 ⊢; exact q3 u (by omega) r1 r2
        · rw [if_pos q]
          have := (e0 t ht).2.2.1
          omega
      · rw [pk_un (by omega)]; exact q4
    · rcases Nat.decEq c cell with q | q
      · refine Or.inr ⟨fun u hu r1 => ?_, by rw [pk_un q]; exact q2⟩
        have r1 : (if u = z then cell else b u) = c := r1
        show (if u = z then n - 1 else a u) < i
        rcases Nat.decEq u z with q5 | q5
        · rw [if_neg q5] at r1 ⊢; exact q1 u (by omega) r1
        · rw [if_pos q5] at r1; exact absurd r1.symm q
      · subst q
        refine Or.inl ⟨z, by omega, bz0, ?_, fun u hu r1 r2 => ?_, by rw [pk_us]; exact q2⟩
        · show i ≤ (if z = z then n - 1 else a z)
          rw [az0]; omega
        · have r1 : (if u = z then c else b u) = c := r1
          have r2 : i ≤ (if u = z then n - 1 else a u) := r2
          show (if z = z then n - 1 else a z) ≤ (if u = z then n - 1 else a u)
          rw [az0]
          rcases Nat.decEq u z with q5 | q5
          · rw [if_neg q5] at r1 r2
            have := q1 u (by omega) r1
            omega
          · rw [if_pos q5]; exact Nat.le_refl _
end
