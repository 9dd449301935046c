/-! begun out of kit/laws: Int32 by its bits -/
def bt (x : Int32) (i : Nat) : Bool := x.toBitVec.getLsbD i
theorem b_ext {x y : Int32} (h : ∀ i, i < 32 → bt x i = bt y i) : x = y := Int32.toBitVec_inj.mp (BitVec.eq_of_getLsbD_eq (fun i hi => h i hi))
theorem b_or (x y : Int32) (i : Nat) : bt (x ||| y) i = (bt x i || bt y i) := by unfold bt; rw [Int32.toBitVec_or, BitVec.getLsbD_or]
theorem b_and (x y : Int32) (i : Nat) : bt (x &&& y) i = (bt x i && bt y i) := by unfold bt; rw [Int32.toBitVec_and, BitVec.getLsbD_and]
theorem b_xor (x y : Int32) (i : Nat) : bt (x ^^^ y) i = (bt x i ^^ bt y i) := by unfold bt; rw [Int32.toBitVec_xor, BitVec.getLsbD_xor]
theorem b_big {x : Int32} {i : Nat} (h : 32 ≤ i) : bt x i = false := BitVec.getLsbD_of_ge _ _ h
theorem b_255 (i : Nat) : bt 255 i = decide (i < 8) := by
  rcases Nat.lt_or_ge i 32 with h | h
  · exact (by decide +kernel : ∀ i, i < 32 → bt 255 i = decide (i < 8)) i h
  · rw [b_big h, decide_eq_false (by omega)]
theorem b_65535 (i : Nat) : bt 65535 i = decide (i < 16) := by
  rcases Nat.lt_or_ge i 32 with h | h
  · exact (by decide +kernel : ∀ i, i < 32 → bt 65535 i = decide (i < 16)) i h
  · rw [b_big h, decide_eq_false (by omega)]
theorem b_m1 : ∀ i, i < 32 → bt (-1) i = true := by decide +kernel
theorem b_0 (i : Nat) : bt 0 i = false := BitVec.getLsbD_zero
theorem s_l : ∀ n, n < 32 → ((nI n &&& 31).toBitVec.smod 32).toNat = n := by decide +kernel
theorem s_u : ∀ n, n < 32 → (((nI n).toUInt32 &&& Int32.toUInt32 31).toBitVec % 32).toNat = n := by decide +kernel
theorem b_shl (n : Nat) (hn : n < 32) (x : Int32) {i : Nat} (hi : i < 32) : bt (x <<< (nI n &&& 31)) i = (decide (n ≤ i) && bt x (i - n)) := by
  unfold bt
  rw [Int32.toBitVec_shiftLeft]
  show (x.toBitVec <<< ((nI n &&& 31).toBitVec.smod 32).toNat).getLsbD i = _
  rw [s_l n hn, BitVec.getLsbD_shiftLeft]
  rcases Nat.lt_or_ge i n with h | h
  · simp [h, Nat.not_le.mpr h]
  · simp [hi, h, Nat.not_lt.mpr h]
theorem b_ushr (n : Nat) (hn : n < 32) (x : Int32) (i : Nat) : bt ((x.toUInt32 >>> ((nI n).toUInt32 &&& Int32.toUInt32 31)).toInt32) i = bt x (n + i) := by
  show (x.toUInt32 >>> ((nI n).toUInt32 &&& Int32.toUInt32 31)).toBitVec.getLsbD i = x.toUInt32.toBitVec.getLsbD (n + i)
  rw [UInt32.toBitVec_shiftRight]
  show (x.toUInt32.toBitVec >>> (((nI n).toUInt32 &&& Int32.toUInt32 31).toBitVec % 32).toNat).getLsbD i = _
  rw [s_u n hn, BitVec.getLsbD_ushiftRight]
theorem b_sshr (n : Nat) (hn : n < 32) (x : Int32) {i : Nat} (hi : i < 32) : bt (x >>> (nI n &&& 31)) i = if n + i < 32 then bt x (n + i) else bt x 31 := by
  unfold bt
  rw [Int32.toBitVec_shiftRight]
  show (x.toBitVec.sshiftRight ((nI n &&& 31).toBitVec.smod 32).toNat).getLsbD i = _
  rw [s_l n hn, BitVec.getLsbD_sshiftRight, BitVec.msb_eq_getLsbD_last]
  simp [hi]
theorem b_shl8 (x : Int32) {i : Nat} (hi : i < 32) : bt (x <<< ((8 : Int32) &&& 31)) i = (decide (8 ≤ i) && bt x (i - 8)) := b_shl 8 (by omega) x hi
theorem b_shl16 (x : Int32) {i : Nat} (hi : i < 32) : bt (x <<< ((16 : Int32) &&& 31)) i = (decide (16 ≤ i) && bt x (i - 16)) := b_shl 16 (by omega) x hi
theorem b_shl24 (x : Int32) {i : Nat} (hi : i < 32) : bt (x <<< ((24 : Int32) &&& 31)) i = (decide (24 ≤ i) && bt x (i - 24)) := b_shl 24 (by omega) x hi
theorem b_sshr8 (x : Int32) {i : Nat} (hi : i < 32) : bt (x >>> ((8 : Int32) &&& 31)) i = if 8 + i < 32 then bt x (8 + i) else bt x 31 := b_sshr 8 (by omega) x hi
/-! one bit of a mask, and how many there are -/
def mo_b (x : Int32) (k : Nat) : Nat := if bt x k = true then 1 else 0
theorem mo_b_le (x : Int32) (k : Nat) : mo_b x k ≤ 1 := by
  rw [mo_b]
  split <;> omega
theorem mb_1 : ∀ i, i < 32 → bt (nI 1) i = decide (i = 0) := by decide +kernel
theorem mb_n (x : Int32) (k i : Nat) (hi : i < 32) : bt (nI (mo_b x k)) i = (decide (i = 0) && bt x k) := by
  rw [mo_b]
  by_cases h : bt x k = true
  · rw [if_pos h, h, mb_1 i hi, Bool.and_true]
  · rw [if_neg h, Bool.eq_false_iff.mpr h, Bool.and_false, nI_0, b_0]
theorem mb_shr (x : Int32) {k : Nat} (hk : k < 32) : (x >>> (nI k &&& 31)) &&& nI 1 = nI (mo_b x k) := by
  apply b_ext
  intro i hi
  rw [b_and, mb_n x k i hi, mb_1 i hi, b_sshr k hk x hi]
  by_cases h : i = 0
  · subst h
    rw [if_pos (by omega)]
    simp
  · simp [h]
theorem mb_ushr (x : Int32) {k : Nat} (hk : k < 32) : (x.toUInt32 >>> ((nI k).toUInt32 &&& Int32.toUInt32 31)).toInt32 &&& nI 1 = nI (mo_b x k) := by
  apply b_ext
  intro i hi
  rw [b_and, mb_n x k i hi, mb_1 i hi, b_ushr k hk x i]
  by_cases h : i = 0
  · subst h
    simp
  · simp [h]
theorem mb_holds (x : Int32) {k : Nat} (hk : k < 32) : kx_holds x (nI k) = nI (mo_b x k) := by
  rw [kx_holds, mb_ushr x hk, mo_b]
  split
  · rw [if_neg kv_n10]
  · rw [if_pos nI_0]
theorem mb_holds0 (x : Int32) {k : Nat} (hk : k < 32) : kx_holds x (nI k) = 0 ↔ mo_b x k = 0 := by
  have h := mo_b_le x k
  rw [mb_holds x hk, ← nI_0, nI_eq (by omega) (by omega)]
def mo_bits (x : Int32) : Nat → Nat
  | 0 => 0
  | k + 1 => mo_bits x k + mo_b x k
theorem mo_bits_le (x : Int32) : ∀ k, mo_bits x k ≤ k
  | 0 => Nat.le_refl 0
  | k + 1 => by
    have h := mo_bits_le x k
    have h2 := mo_b_le x k
    rw [mo_bits]; omega
/-! Integer.bitCount counts them -/
theorem bc_and (s a m r q : Nat) (hr : r < 2 ^ s) (hq : q < 2 ^ s) : (2 ^ s * a + r) &&& (2 ^ s * m + q) = 2 ^ s * (a &&& m) + (r &&& q) := by
  apply Nat.eq_of_testBit_eq
  intro i
  rw [Nat.testBit_and, Nat.testBit_two_pow_mul_add _ hr, Nat.testBit_two_pow_mul_add _ hq, Nat.testBit_two_pow_mul_add _ (Nat.lt_of_le_of_lt Nat.and_le_left hr)]
  split
  · rw [Nat.testBit_and]
  · rw [Nat.testBit_and]
theorem bc_and4 (c0 c1 c2 c3 m : Nat) (h0 : c0 < 256) (h1 : c1 < 256) (h2 : c2 < 256) (hm : m < 256) : (c0 + 256 * (c1 + 256 * (c2 + 256 * c3))) &&& (m + 256 * (m + 256 * (m + 256 * m))) = (c0 &&& m) + 256 * ((c1 &&& m) + 256 * ((c2 &&& m) + 256 * (c3 &&& m))) := by
  have e : ∀ a b c d : Nat, c < 256 → d < 256 → (c + 256 * a) &&& (d + 256 * b) = (c &&& d) + 256 * (a &&& b) := by
    intro a b c d hc hd
    have := bc_and 8 a b c d hc hd
    rw [Nat.add_comm c, Nat.add_comm d, Nat.add_comm (c &&& d)]
    exact this
  rw [e _ _ _ _ h0 hm, e _ _ _ _ h1 hm, e _ _ _ _ h2 hm]
def bc_f1 (c : Nat) : Nat := c - ((c / 2) &&& 85)
def bc_f2 (b : Nat) : Nat := (b &&& 51) + ((b / 4) &&& 51)
def bc_f3 (g : Nat) : Nat := (g + g / 16) % 16
def bc_pop (c : Nat) : Nat := c % 2 + c / 2 % 2 + c / 4 % 2 + c / 8 % 2 + c / 16 % 2 + c / 32 % 2 + c / 64 % 2 + c / 128 % 2
theorem bc_d1 : ∀ c, c < 256 → ∀ e, e < 2 → (c / 2 + 128 * e) &&& 85 = (c / 2) &&& 85 := by decide +kernel
theorem bc_d1' : ∀ c, c < 256 → (c / 2) &&& 85 ≤ c := by decide +kernel
theorem bc_d2 : ∀ b, b < 256 → ∀ e, e < 4 → (b / 4 + 64 * e) &&& 51 = (b / 4) &&& 51 := by decide +kernel
theorem bc_d3 : ∀ c, c < 256 → bc_f2 (bc_f1 c) / 16 ≤ 4 ∧ bc_f2 (bc_f1 c) % 16 ≤ 4 := by decide +kernel
theorem bc_d4 : ∀ g, g < 80 → ∀ e, e < 5 → (g + g / 16 + 16 * e) &&& 15 = bc_f3 g := by decide +kernel
theorem bc_d5 : ∀ c, c < 256 → bc_f3 (bc_f2 (bc_f1 c)) = bc_pop c ∧ bc_pop c ≤ 8 := by decide +kernel
theorem bc_nat (c0 c1 c2 c3 : Nat) (h0 : c0 < 256) (h1 : c1 < 256) (h2 : c2 < 256) (h3 : c3 < 256) : ∀ X a1 a2 a3 a4 a5 : Nat, X = c0 + 256 * (c1 + 256 * (c2 + 256 * c3)) →
    a1 = X - (X / 2 &&& 1431655765) → a2 = (a1 &&& 858993459) + (a1 / 4 &&& 858993459) → a3 = (a2 + a2 / 16) &&& 252645135 → a4 = a3 + a3 / 256 → a5 = a4 + a4 / 65536 →
    (X / 2 &&& 1431655765) ≤ X ∧ a1 < 2 ^ 32 ∧ a2 < 2 ^ 32 ∧ a2 + a2 / 16 < 2 ^ 32 ∧ a3 < 2 ^ 32 ∧ a4 < 2 ^ 32 ∧ a5 &&& 63 = bc_pop c0 + bc_pop c1 + bc_pop c2 + bc_pop c3 := by
  intro X a1 a2 a3 a4 a5 eX e1 e2 e3 e4 e5
  have hs : X / 2 &&& 1431655765 = (c0 / 2 &&& 85) + 256 * ((c1 / 2 &&& 85) + 256 * ((c2 / 2 &&& 85) + 256 * (c3 / 2 &&& 85))) := by
    rw [show X / 2 = (c0 / 2 + 128 * (c1 % 2)) + 256 * ((c1 / 2 + 128 * (c2 % 2)) + 256 * ((c2 / 2 + 128 * (c3 % 2)) + 256 * (c3 / 2))) by omega,
      show (1431655765 : Nat) = 85 + 256 * (85 + 256 * (85 + 256 * 85)) from rfl, bc_and4 _ _ _ _ _ (by omega) (by omega) (by omega) (by omega),
      bc_d1 c0 h0 _ (by omega), bc_d1 c1 h1 _ (by omega), bc_d1 c2 h2 _ (by omega)]
  have p0 := bc_d1' c0 h0
  have p1 := bc_d1' c1 h1
  have p2 := bc_d1' c2 h2
  have p3 := bc_d1' c3 h3
  have k1 : a1 = bc_f1 c0 + 256 * (bc_f1 c1 + 256 * (bc_f1 c2 + 256 * bc_f1 c3)) := by
    rw [e1, hs, eX]
    simp only [bc_f1]
    omega
  have q0 : bc_f1 c0 < 256 := by simp only [bc_f1]; omega
  have q1 : bc_f1 c1 < 256 := by simp only [bc_f1]; omega
  have q2 : bc_f1 c2 < 256 := by simp only [bc_f1]; omega
  have q3 : bc_f1 c3 < 256 := by simp only [bc_f1]; omega
  have k2 : a2 = bc_f2 (bc_f1 c0) + 256 * (bc_f2 (bc_f1 c1) + 256 * (bc_f2 (bc_f1 c2) + 256 * bc_f2 (bc_f1 c3))) := by
    have e9 : a1 / 4 = (bc_f1 c0 / 4 + 64 * (bc_f1 c1 % 4)) + 256 * ((bc_f1 c1 / 4 + 64 * (bc_f1 c2 % 4)) + 256 * ((bc_f1 c2 / 4 + 64 * (bc_f1 c3 % 4)) + 256 * (bc_f1 c3 / 4))) := by omega
    rw [e2, e9, k1, show (858993459 : Nat) = 51 + 256 * (51 + 256 * (51 + 256 * 51)) from rfl, bc_and4 _ _ _ _ _ (by omega) (by omega) (by omega) (by omega), bc_and4 _ _ _ _ _ (by omega) (by omega) (by omega) (by omega),
      bc_d2 _ q0 _ (by omega), bc_d2 _ q1 _ (by omega), bc_d2 _ q2 _ (by omega)]
    simp only [bc_f2]
    omega
  have r0 := bc_d3 c0 h0
  have r1 := bc_d3 c1 h1
  have r2 := bc_d3 c2 h2
  have r3 := bc_d3 c3 h3
  have t0 := bc_d5 c0 h0
  have t1 := bc_d5 c1 h1
  have t2 := bc_d5 c2 h2
  have t3 := bc_d5 c3 h3
  generalize bc_f2 (bc_f1 c0) = g0 at *
  generalize bc_f2 (bc_f1 c1) = g1 at *
  generalize bc_f2 (bc_f1 c2) = g2 at *
  generalize bc_f2 (bc_f1 c3) = g3 at *
  have k3 : a3 = bc_f3 g0 + 256 * (bc_f3 g1 + 256 * (bc_f3 g2 + 256 * bc_f3 g3)) := by
    have e9 : a2 + a2 / 16 = (g0 + g0 / 16 + 16 * (g1 % 16)) + 256 * ((g1 + g1 / 16 + 16 * (g2 % 16)) + 256 * ((g2 + g2 / 16 + 16 * (g3 % 16)) + 256 * (g3 + g3 / 16 + 16 * 0))) := by omega
    rw [e3, e9, show (252645135 : Nat) = 15 + 256 * (15 + 256 * (15 + 256 * 15)) from rfl, bc_and4 _ _ _ _ _ (by omega) (by omega) (by omega) (by omega),
      bc_d4 g0 (by omega) _ (by omega), bc_d4 g1 (by omega) _ (by omega), bc_d4 g2 (by omega) _ (by omega), bc_d4 g3 (by omega) _ (by omega)]
  rw [t0.1, t1.1, t2.1, t3.1] at k3
  have t0 := t0.2
  have t1 := t1.2
  have t2 := t2.2
  have t3 := t3.2
  generalize bc_pop c0 = u0 at *
  generalize bc_pop c1 = u1 at *
  generalize bc_pop c2 = u2 at *
  generalize bc_pop c3 = u3 at *
  refine ⟨by omega, by omega, by omega, by omega, by omega, by omega, ?_⟩
  have k4 : a4 = (u0 + u1) + 256 * ((u1 + u2) + 256 * ((u2 + u3) + 256 * u3)) := by clear k2 k1 hs e1 e2 e3 eX; omega
  clear k3 k2 k1 hs e1 e2 e3 e4 eX
  have k5 : a4 / 65536 = (u2 + u3) + 256 * u3 := by omega
  have k6 : a5 = (u0 + u1 + u2 + u3) + 64 * (4 * ((u1 + u2 + u3) + 256 * ((u2 + u3) + 256 * u3))) := by omega
  rw [show (63 : Nat) = 2 ^ 6 - 1 from rfl, Nat.and_two_pow_sub_one_eq_mod, k6, show (2 : Nat) ^ 6 = 64 from rfl, Nat.add_mul_mod_self_left]
  omega
theorem bc_nI (x : Int32) : ∃ X : Nat, X < 2 ^ 32 ∧ x = nI X := ⟨x.toBitVec.toNat, x.toBitVec.isLt, by
  apply Int32.toBitVec_inj.1
  show x.toBitVec = BitVec.ofNat 32 _
  simp⟩
theorem bc_andI (a b : Nat) : nI a &&& nI b = nI (a &&& b) := by
  apply Int32.toBitVec_inj.1
  show BitVec.ofNat 32 a &&& BitVec.ofNat 32 b = BitVec.ofNat 32 (a &&& b)
  apply BitVec.eq_of_getLsbD_eq
  intro i hi
  simp [hi]
theorem bc_bt (X k : Nat) (hk : k < 32) : mo_b (nI X) k = X / 2 ^ k % 2 := by
  have h : bt (nI X) k = X.testBit k := by
    show (BitVec.ofNat 32 X).getLsbD k = _
    simp [hk]
  rw [mo_b, h, Nat.testBit_eq_decide_div_mod_eq]
  have h2 : X / 2 ^ k % 2 < 2 := Nat.mod_lt _ (by omega)
  by_cases q : X / 2 ^ k % 2 = 1
  · rw [q]; rfl
  · rw [if_neg (by simp [q])]; omega
theorem bc_sum (X : Nat) (c0 c1 c2 c3 : Nat) (h0 : c0 < 256) (h1 : c1 < 256) (h2 : c2 < 256) (h3 : c3 < 256) (e : X = c0 + 256 * (c1 + 256 * (c2 + 256 * c3))) : mo_bits (nI X) 32 = bc_pop c0 + bc_pop c1 + bc_pop c2 + bc_pop c3 := by
  have g0 : mo_bits (nI X) 8 = bc_pop c0 := by
    simp only [mo_bits, bc_bt X _ (by omega : (_ : Nat) < 32), bc_pop]
    omega
  have g1 : mo_bits (nI X) 16 = mo_bits (nI X) 8 + bc_pop c1 := by
    rw [show (16 : Nat) = 8 + 1 + 1 + 1 + 1 + 1 + 1 + 1 + 1 from rfl]
    simp only [mo_bits.eq_2 (nI X) (8 + _), mo_bits.eq_2 (nI X) 8, bc_bt X _ (by omega : (_ : Nat) < 32), bc_pop]
    omega
  have g2 : mo_bits (nI X) 24 = mo_bits (nI X) 16 + bc_pop c2 := by
    rw [show (24 : Nat) = 16 + 1 + 1 + 1 + 1 + 1 + 1 + 1 + 1 from rfl]
    simp only [mo_bits.eq_2 (nI X) (16 + _), mo_bits.eq_2 (nI X) 16, bc_bt X _ (by omega : (_ : Nat) < 32), bc_pop]
    omega
  have g3 : mo_bits (nI X) 32 = mo_bits (nI X) 24 + bc_pop c3 := by
    rw [show (32 : Nat) = 24 + 1 + 1 + 1 + 1 + 1 + 1 + 1 + 1 from rfl]
    simp only [mo_bits.eq_2 (nI X) (24 + _), mo_bits.eq_2 (nI X) 24, bc_bt X _ (by omega : (_ : Nat) < 32), bc_pop]
    omega
  rw [g3, g2, g1, g0]
set_option maxRecDepth 20000 in
theorem kx_bc_bits (x : Int32) : kx_bc x = nI (mo_bits x 32) := by
  obtain ⟨X, hX, rfl⟩ := bc_nI x
  obtain ⟨c0, c1, c2, c3, h0, h1, h2, h3, e⟩ : ∃ c0 c1 c2 c3 : Nat, c0 < 256 ∧ c1 < 256 ∧ c2 < 256 ∧ c3 < 256 ∧ X = c0 + 256 * (c1 + 256 * (c2 + 256 * c3)) :=
    ⟨X % 256, X / 256 % 256, X / 65536 % 256, X / 16777216, by omega, by omega, by omega, by omega, by omega⟩
  obtain ⟨l1, l2, l3, l4, l5, l6, l7⟩ := bc_nat c0 c1 c2 c3 h0 h1 h2 h3 X _ _ _ _ _ e rfl rfl rfl rfl rfl
  rw [bc_sum X c0 c1 c2 c3 h0 h1 h2 h3 e, ← l7]
  have u : ∀ (n k : Nat) (s : Int32), n < 2 ^ 32 → ((s.toUInt32 &&& Int32.toUInt32 31).toBitVec % 32).toNat = k → ((nI n).toUInt32 >>> (s.toUInt32 &&& Int32.toUInt32 31)).toInt32 = nI (n / 2 ^ k) := fun n k s hn hs => pk_ushrN hn s k hs
  simp only [kx_bc]
  rw [show (1431655765 : Int32) = nI 1431655765 from rfl, show (858993459 : Int32) = nI 858993459 from rfl, show (252645135 : Int32) = nI 252645135 from rfl,
    u X 1 (nI 1) hX (by decide), bc_andI, pk_sub l1, u _ 2 (nI 2) l2 (by decide), bc_andI, bc_andI, nI_add, u _ 4 (nI 4) l3 (by decide), nI_add, bc_andI, u _ 8 (nI 8) l5 (by decide), nI_add, u _ 16 (nI 16) l6 (by decide), nI_add, bc_andI]
