/-! the names of the levels: transactions, points with different names in each of them -/
def kc (nm : Nat → Int32) : Nat → Nat
  | 0 => 0
  | k + 1 => kc nm k + (if nm k = (-1) then 1 else 0)
def kF (nm : Nat → Int32) (n : Nat) : Prop := (0 < n → nm 0 = (-1)) ∧ (∀ i, i < n → nm i = (-1) ∨ ∃ a : Nat, a < 10 ∧ nm i = nI a) ∧ (∀ i j, i < j → j < n → nm i = nm j → nm i ≠ (-1) → ∃ k, i < k ∧ k < j ∧ nm k = (-1))
def kN (nm : Nat → Int32) (T n : Nat) : Prop := T ≤ 8 ∧ T = kc nm n ∧ kF nm n
theorem kn_seg (nm : Nat → Int32) : ∀ n i, kx_inn nm n ≤ i → i < n → nm i ≠ (-1)
  | 0, i, _, h => absurd h (by omega)
  | n + 1, i, h1, h2 => by
    rw [kx_inn] at h1
    by_cases q : nm n = (-1)
    · rw [if_pos q] at h1; omega
    · rw [if_neg q] at h1
      by_cases e : i = n
      · rw [e]; exact q
      · exact kn_seg nm n i h1 (by omega)
theorem kn_at (nm : Nat → Int32) : ∀ n, 0 < kx_inn nm n → nm (kx_inn nm n - 1) = (-1)
  | 0, h => absurd h (by rw [kx_inn]; omega)
  | n + 1, h => by
    rw [kx_inn] at h ⊢
    by_cases q : nm n = (-1)
    · rw [if_pos q]; exact q
    · rw [if_neg q] at h ⊢
      exact kn_at nm n h
theorem kn_pos (nm : Nat → Int32) (h0 : nm 0 = (-1)) : ∀ n, 0 < n → 1 ≤ kx_inn nm n
  | 0, h => absurd h (by omega)
  | n + 1, _ => by
    rw [kx_inn]
    by_cases q : nm n = (-1)
    · rw [if_pos q]; omega
    · rw [if_neg q]
      cases n with
      | zero => exact absurd h0 q
      | succ n => exact kn_pos nm h0 (n + 1) (by omega)
theorem kc_seg (nm : Nat → Int32) (j : Nat) : ∀ n, j ≤ n → (∀ i, j ≤ i → i < n → nm i ≠ (-1)) → kc nm n = kc nm j
  | 0, h, _ => by rw [show j = 0 by omega]
  | n + 1, h, hs => by
    by_cases e : j = n + 1
    · rw [e]
    · rw [kc, if_neg (hs n (by omega) (by omega)), Nat.add_zero]
      exact kc_seg nm j n (by omega) (fun i h1 h2 => hs i h1 (by omega))
theorem kc_congr (f g : Nat → Int32) : ∀ n, (∀ i, i < n → f i = g i) → kc f n = kc g n
  | 0, _ => rfl
  | n + 1, h => by rw [kc, kc, kc_congr f g n (fun i hi => h i (by omega)), h n (by omega)]
theorem kc_mono (nm : Nat → Int32) (i : Nat) : ∀ n, i ≤ n → kc nm i ≤ kc nm n
  | 0, h => by rw [show i = 0 by omega]; exact Nat.le_refl _
  | n + 1, h => by
    by_cases e : i = n + 1
    · rw [e]; exact Nat.le_refl _
    · rw [kc]; exact Nat.le_trans (kc_mono nm i n (by omega)) (Nat.le_add_right _ _)
theorem kc_inn (nm : Nat → Int32) (n : Nat) (h : 1 ≤ kx_inn nm n) : kc nm n = kc nm (kx_inn nm n - 1) + 1 := by
  rw [kc_seg nm (kx_inn nm n) n (kx_inn_le nm n) (kn_seg nm n)]
  obtain ⟨j, hj⟩ : ∃ j, kx_inn nm n = j + 1 := ⟨kx_inn nm n - 1, by omega⟩
  have h2 := kn_at nm n h
  rw [hj] at h2 ⊢
  have h2 : nm j = (-1) := h2
  show kc nm j + (if nm j = (-1) then 1 else 0) = _
  rw [if_pos h2]; rfl
theorem kn_pig : ∀ (N m : Nat) (f : Nat → Nat), (∀ i, i < m → f i < N) → (∀ i j, i < j → j < m → f i ≠ f j) → m ≤ N
  | 0, m, f, h, _ => by
    cases m with
    | zero => exact Nat.le_refl _
    | succ m => exact absurd (h 0 (by omega)) (by omega)
  | N + 1, m, f, h, hi => by
    by_cases q : ∃ i0, i0 < m ∧ f i0 = N
    · obtain ⟨i0, h0, e0⟩ := q
      have h9 := kn_pig N (m - 1) (fun i => if i < i0 then f i else f (i + 1)) (fun i hi' => by
        show (if i < i0 then f i else f (i + 1)) < N
        by_cases c : i < i0
        · rw [if_pos c]
          have h1 := h i (by omega)
          have h2 := hi i i0 c h0
          omega
        · rw [if_neg c]
          have h1 := h (i + 1) (by omega)
          have h2 := hi i0 (i + 1) (by omega) (by omega)
          omega) (fun i j hij hj => by
        show (if i < i0 then f i else f (i + 1)) ≠ (if j < i0 then f j else f (j + 1))
        by_cases c : i < i0
        · rw [if_pos c]
          by_cases c2 : j < i0
          · rw [if_pos c2]; exact hi i j hij (by omega)
          · rw [if_neg c2]; exact hi i (j + 1) (by omega) (by omega)
        · rw [if_neg c, if_neg (by omega)]; exact hi (i + 1) (j + 1) (by omega) (by omega))
      omega
    · have h9 := kn_pig N m f (fun i h' => by
        have h1 := h i h'
        have h2 : f i ≠ N := fun e => q ⟨i, h', e⟩
        omega) hi
      omega
theorem kn_len {nm : Nat → Int32} {n : Nat} (h : kF nm n) : n - kx_inn nm n ≤ 10 := by
  obtain ⟨hb, hc, hd⟩ := h
  refine kn_pig 10 (n - kx_inn nm n) (fun i => (nm (kx_inn nm n + i)).toNatClampNeg) (fun i hi => ?_) (fun i j hij hj he => ?_)
  · show (nm (kx_inn nm n + i)).toNatClampNeg < 10
    rcases hc (kx_inn nm n + i) (by omega) with q | ⟨a, ha, q⟩
    · exact absurd q (kn_seg nm n _ (by omega) (by omega))
    · rw [q, nI_clamp (by omega)]; exact ha
  · have he : (nm (kx_inn nm n + i)).toNatClampNeg = (nm (kx_inn nm n + j)).toNatClampNeg := he
    have ni := kn_seg nm n (kx_inn nm n + i) (by omega) (by omega)
    have nj := kn_seg nm n (kx_inn nm n + j) (by omega) (by omega)
    rcases hc (kx_inn nm n + i) (by omega) with q | ⟨a, ha, qa⟩
    · exact ni q
    rcases hc (kx_inn nm n + j) (by omega) with q | ⟨b, hb2, qb⟩
    · exact nj q
    rw [qa, qb, nI_clamp (by omega), nI_clamp (by omega)] at he
    obtain ⟨k, k1, k2, k3⟩ := hd (kx_inn nm n + i) (kx_inn nm n + j) (by omega) (by omega) (by rw [qa, qb, he]) ni
    exact kn_seg nm n k (by omega) (by omega) k3
theorem kF_cut {nm : Nat → Int32} {n i : Nat} (h : kF nm n) (hi : i ≤ n) : kF nm i := by
  obtain ⟨hb, hc, hd⟩ := h
  exact ⟨fun h0 => hb (by omega), fun k hk => hc k (by omega), fun a b hab hb2 => hd a b hab (by omega)⟩
theorem kn_b11 (nm : Nat → Int32) (n : Nat) : kF nm n → n ≤ 11 * kc nm n := by
  induction n using Nat.strongRecOn with
  | ind n ih =>
    intro h
    by_cases h0 : n = 0
    · omega
    · have hj := kn_pos nm (h.1 (by omega)) n (by omega)
      have hl := kn_len h
      have hle := kx_inn_le nm n
      have hi := ih (kx_inn nm n - 1) (by omega) (kF_cut h (by omega))
      have hk := kc_inn nm n hj
      omega
theorem kN_bound {nm : Nat → Int32} {T n : Nat} (h : kN nm T n) : n ≤ 11 * T := by
  have := kn_b11 nm n h.2.2
  rw [← h.2.1] at this
  exact this
theorem kN_88 {nm : Nat → Int32} {T n : Nat} (h : kN nm T n) : n ≤ 88 := by
  have h1 := kN_bound h
  have h2 := h.1
  omega
theorem kN_pos {nm : Nat → Int32} {T n : Nat} (h : kN nm T n) (hT : 0 < T) : 0 < n := by
  rcases Nat.eq_zero_or_pos n with q | q
  · have := h.2.1
    rw [q, kc] at this
    omega
  · exact q
theorem kN_inn {nm : Nat → Int32} {T n : Nat} (h : kN nm T n) (hn : 0 < n) : 1 ≤ kx_inn nm n := kn_pos nm (h.2.2.1 hn) n hn
theorem kN_n0 {nm : Nat → Int32} {n : Nat} (h : kN nm 0 n) : n = 0 := by
  have := kN_bound h
  omega
theorem kN_0 (nm : Nat → Int32) : kN nm 0 0 := ⟨by omega, rfl, fun h => absurd h (by omega), fun i h => absurd h (by omega), fun i j _ h => absurd h (by omega)⟩
theorem kN_Tinn {nm : Nat → Int32} {T n : Nat} (h : kN nm T n) (hT : 0 < T) : kc nm (kx_inn nm n - 1) = T - 1 := by
  have h1 := kc_inn nm n (kN_inn h (kN_pos h hT))
  have h2 := h.2.1
  omega
theorem kN_inn2 {nm : Nat → Int32} {T n : Nat} (h : kN nm T n) (hT : 2 ≤ T) : 2 ≤ kx_inn nm n := by
  have h1 := kN_Tinn h (by omega)
  have h2 := kN_inn h (kN_pos h (by omega))
  by_cases q : kx_inn nm n = 1
  · rw [q] at h1
    have h3 : kc nm 0 = T - 1 := h1
    rw [kc] at h3
    omega
  · omega
theorem kN_inn1 {nm : Nat → Int32} {n : Nat} (h : kN nm 1 n) : kx_inn nm n = 1 := by
  have h1 := kN_Tinn h (by omega)
  have h2 := kN_inn h (kN_pos h (by omega))
  have h3 := kn_b11 nm (kx_inn nm n - 1) (kF_cut h.2.2 (by have := kx_inn_le nm n; omega))
  omega
theorem kN_cut {nm : Nat → Int32} {T n i : Nat} (h : kN nm T n) (hi : i ≤ n) : kN nm (kc nm i) i := by
  refine ⟨?_, rfl, kF_cut h.2.2 hi⟩
  have h1 := kc_mono nm i n hi
  have h2 := h.1
  have h3 := h.2.1
  omega
theorem kN_pop {nm : Nat → Int32} {T n : Nat} (h : kN nm T n) (hT : 0 < T) : kN nm (T - 1) (kx_inn nm n - 1) := by
  have h1 := kN_cut h (i := kx_inn nm n - 1) (by have := kx_inn_le nm n; omega)
  rw [kN_Tinn h hT] at h1
  exact h1
theorem kN_begin {nm : Nat → Int32} {T n : Nat} (h : kN nm T n) (hT : T < 8) : kN (upd nm n (-1)) (T + 1) (n + 1) := by
  obtain ⟨ha, he, hb, hc, hd⟩ := h
  have hu : ∀ i, i < n → upd nm n (-1) i = nm i := fun i hi => pk_un (by omega)
  have hs : upd nm n (-1) n = (-1) := pk_us
  refine ⟨by omega, ?_, fun _ => ?_, fun i hi => ?_, fun i j hij hj h1 h2 => ?_⟩
  · rw [kc, kc_congr _ nm n hu, if_pos hs, he]
  · rcases Nat.eq_zero_or_pos n with q | q
    · subst q; exact hs
    · rw [hu 0 q]; exact hb q
  · rcases Nat.decEq i n with q | q
    · rw [hu i (by omega)]; exact hc i (by omega)
    · subst q; exact Or.inl hs
  · rcases Nat.decEq j n with q | q
    · rw [hu i (by omega), hu j (by omega)] at h1
      rw [hu i (by omega)] at h2
      obtain ⟨k, k1, k2, k3⟩ := hd i j hij (by omega) h1 h2
      exact ⟨k, k1, k2, by rw [hu k (by omega)]; exact k3⟩
    · subst q; rw [h1, hs] at h2; exact absurd rfl h2
theorem kN_push {nm : Nat → Int32} {T n c : Nat} (h : kN nm T n) (hn : 0 < n) (hc10 : c < 10) (hp : ∀ i, kx_inn nm n ≤ i → i < n → nm i ≠ nI c) : kN (upd nm n (nI c)) T (n + 1) := by
  have hinn := kN_inn h hn
  obtain ⟨ha, he, hb, hc, hd⟩ := h
  have hu : ∀ i, i < n → upd nm n (nI c) i = nm i := fun i hi => pk_un (by omega)
  have hs : upd nm n (nI c) n = nI c := pk_us
  have hne : ¬ nI c = (-1) := kv_nm1 (by omega)
  refine ⟨ha, ?_, fun _ => ?_, fun i hi => ?_, fun i j hij hj h1 h2 => ?_⟩
  · rw [kc, kc_congr _ nm n hu, hs, if_neg hne, Nat.add_zero, he]
  · rw [hu 0 hn]; exact hb hn
  · rcases Nat.decEq i n with q | q
    · rw [hu i (by omega)]; exact hc i (by omega)
    · subst q; exact Or.inr ⟨c, hc10, hs⟩
  · rcases Nat.decEq j n with q | q
    · rw [hu i (by omega), hu j (by omega)] at h1
      rw [hu i (by omega)] at h2
      obtain ⟨k, k1, k2, k3⟩ := hd i j hij (by omega) h1 h2
      exact ⟨k, k1, k2, by rw [hu k (by omega)]; exact k3⟩
    · subst q
      rw [hs, hu i (by omega)] at h1
      have hlt : ¬ kx_inn nm j ≤ i := fun q => hp i q hij h1
      have hle := kx_inn_le nm j
      have hat := kn_at nm j hinn
      refine ⟨kx_inn nm j - 1, ?_, by omega, by rw [hu _ (by omega)]; exact hat⟩
      rcases Nat.decEq i (kx_inn nm j - 1) with q | q
      · omega
      · rw [← q, h1] at hat; exact absurd hat hne
theorem kx_sh_at (nm : Nat → Int32) (lev n j : Nat) (hj : j + 1 < n) : kx_sh nm lev n j = if lev ≤ j then nm (j + 1) else nm j := by
  rw [kx_sh]
  by_cases q : lev ≤ j
  · rw [if_pos ⟨q, hj⟩, if_pos q]
  · rw [if_neg (fun r => q r.1), if_neg q]
theorem kc_sh (nm : Nat → Int32) (lev n : Nat) (hlev : nm lev ≠ (-1)) : ∀ k, k < n → kc (kx_sh nm lev n) k = if k ≤ lev then kc nm k else kc nm (k + 1)
  | 0, _ => by rw [if_pos (by omega)]; rfl
  | k + 1, h => by
    rw [kc, kc_sh nm lev n hlev k (by omega), kx_sh_at nm lev n k (by omega)]
    by_cases q : k ≤ lev
    · rw [if_pos q]
      by_cases q2 : k + 1 ≤ lev
      · rw [if_pos q2, if_neg (show ¬ lev ≤ k by omega)]; rfl
      · rw [if_neg q2, if_pos (show lev ≤ k by omega)]
        have e : k = lev := by omega
        subst e
        show _ = kc nm k + (if nm k = (-1) then 1 else 0) + (if nm (k + 1) = (-1) then 1 else 0)
        rw [if_neg hlev]; rfl
    · rw [if_neg q, if_neg (show ¬ k + 1 ≤ lev by omega), if_pos (show lev ≤ k by omega)]; rfl
theorem kN_del {nm : Nat → Int32} {T n lev : Nat} (h : kN nm T n) (hl1 : kx_inn nm n ≤ lev) (hl0 : 1 ≤ lev) (hl2 : lev < n) : kN (kx_sh nm lev n) T (n - 1) := by
  have hne := kn_seg nm n lev hl1 hl2
  obtain ⟨ha, he, hb, hc, hd⟩ := h
  have hat : ∀ j, j < n - 1 → kx_sh nm lev n j = if lev ≤ j then nm (j + 1) else nm j := fun j hj => kx_sh_at nm lev n j (by omega)
  refine ⟨ha, ?_, fun h0 => ?_, fun i hi => ?_, fun i j hij hj h1 h2 => ?_⟩
  · rw [kc_sh nm lev n hne (n - 1) (by omega), he]
    by_cases q : n - 1 ≤ lev
    · rw [if_pos q]
      have e : n = lev + 1 := by omega
      rw [e, kc, if_neg hne]; rfl
    · rw [if_neg q, show n - 1 + 1 = n by omega]
  · rw [hat 0 h0, if_neg (by omega)]; exact hb (by omega)
  · rw [hat i hi]
    by_cases q : lev ≤ i
    · rw [if_pos q]; exact hc (i + 1) (by omega)
    · rw [if_neg q]; exact hc i (by omega)
  · rw [hat i (by omega)] at h1 h2
    rw [hat j hj] at h1
    have up : ∀ k, k < n → nm k = (-1) → ∃ k', k' < n - 1 ∧ kx_sh nm lev n k' = (-1) ∧ (k < lev → k' = k) ∧ (lev < k → k' + 1 = k) := by
      intro k hk hk1
      by_cases q : k < lev
      · exact ⟨k, by omega, by rw [hat k (by omega), if_neg (by omega)]; exact hk1, fun _ => rfl, fun r => by omega⟩
      · have q2 : k ≠ lev := fun r => hne (by rw [← r]; exact hk1)
        exact ⟨k - 1, by omega, by rw [hat (k - 1) (by omega), if_pos (by omega), show k - 1 + 1 = k by omega]; exact hk1, fun r => by omega, fun r => by omega⟩
    by_cases qi : lev ≤ i
    · rw [if_pos qi] at h1 h2
      rw [if_pos (by omega)] at h1
      obtain ⟨k, k1, k2, k3⟩ := hd (i + 1) (j + 1) (by omega) (by omega) h1 h2
      obtain ⟨k', u1, u2, u3, u4⟩ := up k (by omega) k3
      have := u4 (by omega)
      exact ⟨k', by omega, by omega, u2⟩
    · rw [if_neg qi] at h1 h2
      by_cases qj : lev ≤ j
      · rw [if_pos qj] at h1
        obtain ⟨k, k1, k2, k3⟩ := hd i (j + 1) (by omega) (by omega) h1 h2
        obtain ⟨k', u1, u2, u3, u4⟩ := up k (by omega) k3
        have q2 : k ≠ lev := fun r => hne (by rw [← r]; exact k3)
        by_cases q : k < lev
        · have := u3 q
          exact ⟨k', by omega, by omega, u2⟩
        · have := u4 (by omega)
          exact ⟨k', by omega, by omega, u2⟩
      · rw [if_neg qj] at h1
        obtain ⟨k, k1, k2, k3⟩ := hd i j (by omega) (by omega) h1 h2
        obtain ⟨k', u1, u2, u3, u4⟩ := up k (by omega) k3
        have := u3 (by omega)
        exact ⟨k', by omega, by omega, u2⟩
theorem kp_some (nm : Nat → Int32) (name : Int32) (j : Nat) : ∀ n, 0 < kx_pl nm name j n → j < kx_pl nm name j n ∧ nm (kx_pl nm name j n - 1) = name
  | 0, h => absurd h (by rw [kx_pl]; omega)
  | n + 1, h => by
    rw [kx_pl] at h ⊢
    by_cases q : n + 1 ≤ j
    · rw [if_pos q] at h; omega
    · rw [if_neg q] at h ⊢
      by_cases q2 : nm n = name
      · rw [if_pos q2]; exact ⟨by omega, q2⟩
      · rw [if_neg q2] at h ⊢
        exact kp_some nm name j n h
theorem kp_none (nm : Nat → Int32) (name : Int32) (j : Nat) : ∀ n, kx_pl nm name j n = 0 → ∀ i, j ≤ i → i < n → nm i ≠ name
  | 0, _, i, _, h => absurd h (by omega)
  | n + 1, h, i, h1, h2 => by
    rw [kx_pl] at h
    rw [if_neg (by omega)] at h
    by_cases q2 : nm n = name
    · rw [if_pos q2] at h; omega
    · rw [if_neg q2] at h
      by_cases e : i = n
      · rw [e]; exact q2
      · exact kp_none nm name j n h i h1 (by omega)
/-- a name that is moved: released, it is nowhere in the innermost transaction -/
theorem kn_gone {nm : Nat → Int32} {T n lev : Nat} (h : kN nm T n) (hl1 : kx_inn nm n ≤ lev) (hl2 : lev < n) : ∀ i, kx_inn (kx_sh nm lev n) (n - 1) ≤ i → i < n - 1 → kx_sh nm lev n i ≠ nm lev := by
  intro i h1 h2 h3
  have hne := kn_seg nm n lev hl1 hl2
  obtain ⟨ha, he, hb, hc, hd⟩ := h
  rw [kx_sh_at nm lev n i (by omega)] at h3
  by_cases q : lev ≤ i
  · rw [if_pos q] at h3
    obtain ⟨k, k1, k2, k3⟩ := hd lev (i + 1) (by omega) (by omega) h3.symm hne
    exact kn_seg nm n k (by omega) (by omega) k3
  · rw [if_neg q] at h3
    obtain ⟨k, k1, k2, k3⟩ := hd i lev (by omega) (by omega) h3 (by rw [h3]; exact hne)
    exact kn_seg (kx_sh nm lev n) (n - 1) k (by omega) (by omega) (by rw [kx_sh_at nm lev n k (by omega), if_neg (by omega)]; exact k3)
theorem kN_back {nm : Nat → Int32} {T n i : Nat} (h : kN nm T n) (hl1 : kx_inn nm n ≤ i) (hi : i ≤ n) : kN nm T i := by
  have h1 := kN_cut h hi
  have h2 : kc nm i = T := by
    rw [h.2.1]
    exact (kc_seg nm i n hi (fun k h3 h4 => kn_seg nm n k (by omega) h4)).symm
  rw [h2] at h1
  exact h1
theorem upd_self (f : Nat → Int32) (i : Nat) {v : Int32} (h : f i = v) : upd f i v = f := by
  funext j
  rcases Nat.decEq j i with q | q
  · rw [pk_un q]
  · subst q; rw [pk_us, h]
