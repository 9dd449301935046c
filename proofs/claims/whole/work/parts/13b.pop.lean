/-! Integer.bitCount counts them -/
theorem bc_and (s a m r q : Nat) (hr : r < 2 ^ s) (hq : q < 2 ^ s) : (2 ^ s * a + r) &&& (2 ^ s * m + q) = 2 ^ s * (a &&& m) + (r &&& q) := by
  apply Nat.eq_of_testBit_eq
  intro i
  rw [Nat.testBit_and, Nat.testBit_two_pow_mul_add _ hr, Nat.testBit_two_pow_mul_add _ hq, Nat.testBit_two_pow_mul_add _ (Nat.lt_of_le_of_lt Nat.and_le_left hr)]
  split
  · rw [Nat.testBit_and]
  · rw [Nat.testBit_and]
theorem bc_and8 (a m r q : Nat) (hr : r < 256) (hq : q < 256) : (r + 256 * a) &&& (q + 256 * m) = (r &&& q) + 256 * (a &&& m) := by
  have h := bc_and 8 a m r q hr hq
  rw [Nat.add_comm r, Nat.add_comm q, Nat.add_comm (r &&& q)]
  exact h
def bc_f1 (c : Nat) : Nat := c - ((c / 2) &&& 85)
def bc_f2 (b : Nat) : Nat := (b &&& 51) + ((b / 4) &&& 51)
def bc_f3 (g : Nat) : Nat := (g + g / 16) &&& 15
/-- bits of a number up to place k -/
def bc_pb (x : Nat) : Nat → Nat
  | 0 => 0
  | k + 1 => bc_pb x k + (x.testBit k).toNat
theorem bc_d1 : ∀ c, c < 256 → ∀ e, e < 2 → (c / 2 + 128 * e) &&& 85 = (c / 2) &&& 85 := by decide +kernel
theorem bc_d1' : ∀ c, c < 256 → (c / 2) &&& 85 ≤ c := by decide +kernel
theorem bc_d2 : ∀ b, b < 256 → ∀ e, e < 4 → (b / 4 + 64 * e) &&& 51 = (b / 4) &&& 51 := by decide +kernel
theorem bc_d3 : ∀ c, c < 256 → bc_f2 (bc_f1 c) / 16 ≤ 4 ∧ bc_f2 (bc_f1 c) % 16 ≤ 4 := by decide +kernel
theorem bc_d4 : ∀ g, g < 80 → ∀ e, e < 5 → (g + g / 16 + 16 * e) &&& 15 = bc_f3 g := by decide +kernel
theorem bc_d5 : ∀ c, c < 256 → bc_f3 (bc_f2 (bc_f1 c)) = bc_pb c 8 := by decide +kernel
theorem bc_d6 : ∀ c, c < 256 → bc_pb c 8 ≤ 8 := by decide +kernel
def bc_s1 (N X : Nat) : Nat := X - (X / 2 &&& N)
def bc_s2 (N X : Nat) : Nat := (X &&& N) + (X / 4 &&& N)
def bc_s3 (N X : Nat) : Nat := (X + X / 16) &&& N
theorem bc_l1 (c Y N : Nat) (hc : c < 256) : bc_s1 (85 + 256 * N) (c + 256 * Y) = bc_f1 c + 256 * bc_s1 N Y := by
  have h1 : (c + 256 * Y) / 2 = (c / 2 + 128 * (Y % 2)) + 256 * (Y / 2) := by omega
  have h2 := bc_d1' c hc
  have h3 : Y / 2 &&& N ≤ Y := Nat.le_trans Nat.and_le_left (Nat.div_le_self _ _)
  have h4 : Y % 2 < 2 := Nat.mod_lt _ (by decide)
  rw [bc_s1, h1, bc_and8 _ _ _ _ (by omega) (by decide), bc_d1 c hc _ h4, bc_f1, bc_s1]
  omega
theorem bc_l2 (b Y N : Nat) (hb : b < 256) : bc_s2 (51 + 256 * N) (b + 256 * Y) = bc_f2 b + 256 * bc_s2 N Y := by
  have h1 : (b + 256 * Y) / 4 = (b / 4 + 64 * (Y % 4)) + 256 * (Y / 4) := by omega
  have h4 : Y % 4 < 4 := Nat.mod_lt _ (by decide)
  rw [bc_s2, h1, bc_and8 _ _ _ _ hb (by decide), bc_and8 _ _ _ _ (by omega) (by decide), bc_d2 b hb _ h4, bc_f2, bc_s2]
  omega
theorem bc_l3 (g Y N : Nat) (hg : g < 80) (hY : Y % 16 < 5) : bc_s3 (15 + 256 * N) (g + 256 * Y) = bc_f3 g + 256 * bc_s3 N Y := by
  have h1 : g + 256 * Y + (g + 256 * Y) / 16 = (g + g / 16 + 16 * (Y % 16)) + 256 * (Y + Y / 16) := by omega
  rw [bc_s3, h1, bc_and8 _ _ _ _ (by omega) (by decide), bc_d4 g hg _ hY, bc_s3]
theorem bc_f1_lt (c : Nat) (h : c < 256) : bc_f1 c < 256 := by rw [bc_f1]; omega
def bc_w (a b c d : Nat) : Nat := a + 256 * (b + 256 * (c + 256 * d))
theorem bc_n1 (c0 c1 c2 c3 : Nat) (h0 : c0 < 256) (h1 : c1 < 256) (h2 : c2 < 256) : bc_s1 1431655765 (bc_w c0 c1 c2 c3) = bc_w (bc_f1 c0) (bc_f1 c1) (bc_f1 c2) (bc_f1 c3) := by
  rw [show (1431655765 : Nat) = 85 + 256 * (85 + 256 * (85 + 256 * 85)) from rfl, bc_w, bc_l1 _ _ _ h0, bc_l1 _ _ _ h1, bc_l1 _ _ _ h2]
  rfl
theorem bc_n2 (c0 c1 c2 c3 : Nat) (h0 : c0 < 256) (h1 : c1 < 256) (h2 : c2 < 256) : bc_s2 858993459 (bc_w c0 c1 c2 c3) = bc_w (bc_f2 c0) (bc_f2 c1) (bc_f2 c2) (bc_f2 c3) := by
  rw [show (858993459 : Nat) = 51 + 256 * (51 + 256 * (51 + 256 * 51)) from rfl, bc_w, bc_l2 _ _ _ h0, bc_l2 _ _ _ h1, bc_l2 _ _ _ h2]
  rfl
theorem bc_n3 (c0 c1 c2 c3 : Nat) (h0 : c0 < 80) (h1 : c1 < 80) (h2 : c2 < 80) (k1 : c1 % 16 < 5) (k2 : c2 % 16 < 5) (k3 : c3 % 16 < 5) : bc_s3 252645135 (bc_w c0 c1 c2 c3) = bc_w (bc_f3 c0) (bc_f3 c1) (bc_f3 c2) (bc_f3 c3) := by
  rw [show (252645135 : Nat) = 15 + 256 * (15 + 256 * (15 + 256 * 15)) from rfl, bc_w, bc_l3 _ _ _ h0 (by omega), bc_l3 _ _ _ h1 (by omega), bc_l3 _ _ _ h2 k3]
  rfl
theorem bc_w_lt (a b c d : Nat) (h0 : a < 256) (h1 : b < 256) (h2 : c < 256) (h3 : d < 256) : bc_w a b c d < 2 ^ 32 := by rw [bc_w]; omega
theorem bc_n4 (a b c d : Nat) (h0 : a ≤ 8) (h1 : b ≤ 8) (h2 : c ≤ 8) (h3 : d ≤ 8) : bc_w a b c d + bc_w a b c d / 256 = bc_w (a + b) (b + c) (c + d) d := by
  have e : bc_w a b c d / 256 = b + 256 * (c + 256 * d) := by rw [bc_w]; omega
  rw [e, bc_w, bc_w]; omega
theorem bc_n5 (a b c d : Nat) (h0 : a ≤ 8) (h1 : b ≤ 8) (h2 : c ≤ 8) (h3 : d ≤ 8) : (bc_w (a + b) (b + c) (c + d) d + bc_w (a + b) (b + c) (c + d) d / 65536) &&& 63 = a + b + c + d := by
  have e : bc_w (a + b) (b + c) (c + d) d / 65536 = (c + d) + 256 * d := by
    rw [bc_w, show (a + b) + 256 * ((b + c) + 256 * ((c + d) + 256 * d)) = ((a + b) + 256 * (b + c)) + 65536 * ((c + d) + 256 * d) by omega, Nat.add_mul_div_left _ _ (by decide), Nat.div_eq_of_lt (by omega), Nat.zero_add]
  have e2 : bc_w (a + b) (b + c) (c + d) d + ((c + d) + 256 * d) = (a + b + c + d) + 64 * (4 * ((b + c + d) + 256 * ((c + d) + 256 * d))) := by rw [bc_w]; omega
  rw [e, e2, show (63 : Nat) = 2 ^ 6 - 1 from rfl, Nat.and_two_pow_sub_one_eq_mod, show (2 : Nat) ^ 6 = 64 from rfl, Nat.add_mul_mod_self_left]
  omega
theorem bc_pb_cat (c Y : Nat) (hc : c < 256) : ∀ k, bc_pb (c + 256 * Y) (8 + k) = bc_pb c 8 + bc_pb Y k
  | 0 => by
    have h : ∀ i, i < 8 → (c + 256 * Y).testBit i = c.testBit i := fun i hi => by
      have := Nat.testBit_two_pow_mul_add (i := 8) Y hc i
      rw [Nat.add_comm c]
      exact this.trans (if_pos hi)
    show bc_pb (c + 256 * Y) 8 = bc_pb c 8 + 0
    simp only [bc_pb, h 0 (by decide), h 1 (by decide), h 2 (by decide), h 3 (by decide), h 4 (by decide), h 5 (by decide), h 6 (by decide), h 7 (by decide), Nat.add_zero]
  | k + 1 => by
    have ih := bc_pb_cat c Y hc k
    have h : (c + 256 * Y).testBit (8 + k) = Y.testBit k := by
      have := Nat.testBit_two_pow_mul_add (i := 8) Y hc (8 + k)
      rw [Nat.add_comm c]
      refine this.trans ((if_neg (by omega)).trans ?_)
      rw [Nat.add_sub_cancel_left]
    show bc_pb (c + 256 * Y) (8 + k) + ((c + 256 * Y).testBit (8 + k)).toNat = bc_pb c 8 + (bc_pb Y k + (Y.testBit k).toNat)
    rw [ih, h, Nat.add_assoc]
theorem bc_pb_w (a b c d : Nat) (h0 : a < 256) (h1 : b < 256) (h2 : c < 256) : bc_pb (bc_w a b c d) 32 = bc_pb a 8 + bc_pb b 8 + bc_pb c 8 + bc_pb d 8 := by
  rw [bc_w, bc_pb_cat a _ h0 24, bc_pb_cat b _ h1 16, bc_pb_cat c _ h2 8]
  omega
theorem bc_nI (x : Int32) : ∃ X : Nat, X < 2 ^ 32 ∧ x = nI X := ⟨x.toBitVec.toNat, x.toBitVec.isLt, by
  apply Int32.toBitVec_inj.1
  show x.toBitVec = BitVec.ofNat 32 _
  simp⟩
theorem bc_andI (a b : Nat) : nI a &&& nI b = nI (a &&& b) := by
  apply Int32.toBitVec_inj.1
  show BitVec.ofNat 32 a &&& BitVec.ofNat 32 b = BitVec.ofNat 32 (a &&& b)
  apply BitVec.eq_of_getLsbD_eq
  intro i hi
  simp [hi]
theorem bc_bt (X k : Nat) (hk : k < 32) : mo_b (nI X) k = (X.testBit k).toNat := by
  have h : bt (nI X) k = X.testBit k := by
    show (BitVec.ofNat 32 X).getLsbD k = _
    rw [BitVec.getLsbD_ofNat, decide_eq_true hk, Bool.true_and]
  rw [mo_b, h]
  cases X.testBit k <;> rfl
theorem bc_bits (X : Nat) : ∀ k, k ≤ 32 → mo_bits (nI X) k = bc_pb X k
  | 0, _ => rfl
  | k + 1, h => by rw [mo_bits, bc_pb, bc_bits X k (by omega), bc_bt X k (by omega)]
theorem bc_nat (c0 c1 c2 c3 : Nat) (h0 : c0 < 256) (h1 : c1 < 256) (h2 : c2 < 256) (h3 : c3 < 256) : ∀ X a1 a2 a3 a4 a5 : Nat, X = bc_w c0 c1 c2 c3 →
    a1 = X - (X / 2 &&& 1431655765) → a2 = (a1 &&& 858993459) + (a1 / 4 &&& 858993459) → a3 = (a2 + a2 / 16) &&& 252645135 → a4 = a3 + a3 / 256 → a5 = a4 + a4 / 65536 →
    (X / 2 &&& 1431655765) ≤ X ∧ a1 < 2 ^ 32 ∧ a2 < 2 ^ 32 ∧ a3 < 2 ^ 32 ∧ a4 < 2 ^ 32 ∧ a5 &&& 63 = bc_pb c0 8 + bc_pb c1 8 + bc_pb c2 8 + bc_pb c3 8 := by
  intro X a1 a2 a3 a4 a5 eX e1 e2 e3 e4 e5
  have k1 : a1 = bc_w (bc_f1 c0) (bc_f1 c1) (bc_f1 c2) (bc_f1 c3) := by rw [e1, eX]; exact bc_n1 c0 c1 c2 c3 h0 h1 h2
  have k2 : a2 = bc_w (bc_f2 (bc_f1 c0)) (bc_f2 (bc_f1 c1)) (bc_f2 (bc_f1 c2)) (bc_f2 (bc_f1 c3)) := by rw [e2, k1]; exact bc_n2 _ _ _ _ (bc_f1_lt c0 h0) (bc_f1_lt c1 h1) (bc_f1_lt c2 h2)
  have d0 := bc_d3 c0 h0
  have d1 := bc_d3 c1 h1
  have d2 := bc_d3 c2 h2
  have d3 := bc_d3 c3 h3
  have k3 : a3 = bc_w (bc_pb c0 8) (bc_pb c1 8) (bc_pb c2 8) (bc_pb c3 8) := by
    rw [e3, k2, ← bc_d5 c0 h0, ← bc_d5 c1 h1, ← bc_d5 c2 h2, ← bc_d5 c3 h3]
    exact bc_n3 _ _ _ _ (by omega) (by omega) (by omega) (by omega) (by omega) (by omega)
  have u0 := bc_d6 c0 h0
  have u1 := bc_d6 c1 h1
  have u2 := bc_d6 c2 h2
  have u3 := bc_d6 c3 h3
  have k4 : a4 = bc_w (bc_pb c0 8 + bc_pb c1 8) (bc_pb c1 8 + bc_pb c2 8) (bc_pb c2 8 + bc_pb c3 8) (bc_pb c3 8) := by rw [e4, k3]; exact bc_n4 _ _ _ _ u0 u1 u2 u3
  refine ⟨Nat.le_trans Nat.and_le_left (Nat.div_le_self _ _), ?_, ?_, ?_, ?_, ?_⟩
  · rw [k1]; exact bc_w_lt _ _ _ _ (bc_f1_lt c0 h0) (bc_f1_lt c1 h1) (bc_f1_lt c2 h2) (bc_f1_lt c3 h3)
  · rw [k2]; exact bc_w_lt _ _ _ _ (by omega) (by omega) (by omega) (by omega)
  · rw [k3]; exact bc_w_lt _ _ _ _ (by omega) (by omega) (by omega) (by omega)
  · rw [k4]; exact bc_w_lt _ _ _ _ (by omega) (by omega) (by omega) (by omega)
  · rw [e5, k4]; exact bc_n5 _ _ _ _ u0 u1 u2 u3
set_option maxRecDepth 20000 in
theorem kx_bc_bits (x : Int32) : kx_bc x = nI (mo_bits x 32) := by
  obtain ⟨X, hX, rfl⟩ := bc_nI x
  obtain ⟨c0, c1, c2, c3, h0, h1, h2, h3, e⟩ : ∃ c0 c1 c2 c3 : Nat, c0 < 256 ∧ c1 < 256 ∧ c2 < 256 ∧ c3 < 256 ∧ X = bc_w c0 c1 c2 c3 :=
    ⟨X % 256, X / 256 % 256, X / 256 / 256 % 256, X / 256 / 256 / 256, by omega, by omega, by omega, by omega, by rw [bc_w]; omega⟩
  obtain ⟨l1, l2, l3, l5, l6, l7⟩ := bc_nat c0 c1 c2 c3 h0 h1 h2 h3 X _ _ _ _ _ e rfl rfl rfl rfl rfl
  rw [bc_bits X 32 (Nat.le_refl _), e, bc_pb_w c0 c1 c2 c3 h0 h1 h2, ← e, ← l7]
  have u : ∀ (n k : Nat) (s : Int32), n < 2 ^ 32 → ((s.toUInt32 &&& Int32.toUInt32 31).toBitVec % 32).toNat = k → ((nI n).toUInt32 >>> (s.toUInt32 &&& Int32.toUInt32 31)).toInt32 = nI (n / 2 ^ k) := fun n k s hn hs => pk_ushrN hn s k hs
  simp only [kx_bc]
  rw [show (1431655765 : Int32) = nI 1431655765 from rfl, show (858993459 : Int32) = nI 858993459 from rfl, show (252645135 : Int32) = nI 252645135 from rfl,
    u X 1 (nI 1) hX (by decide), bc_andI, pk_sub l1, u _ 2 (nI 2) l2 (by decide), bc_andI, bc_andI, nI_add, u _ 4 (nI 4) l3 (by decide), nI_add, bc_andI, u _ 8 (nI 8) l5 (by decide), nI_add, u _ 16 (nI 16) l6 (by decide), nI_add, bc_andI]
