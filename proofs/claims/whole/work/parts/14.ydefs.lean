/-! the reference: its world, and what its methods compute -/
abbrev wX1 (cA : ClassId) (g0 r1 r2 r3 r4 r5 : Nat) (ce w we wr nm : Nat → Int32) (n T : Nat) (cd off told wia : Int32) : va_W :=
  [(g0, .inr (1, [.int cd, .ref r1, .ref r2, .ref r3, .ref r4, .ref r5, .int (nI n), .int (nI T), .int off, .int told, .int wia])), (r1, .inl (cA, 32, .inl ce)), (r2, .inl (cA, 98, .inl w)), (r3, .inl (cA, 2880, .inl we)), (r4, .inl (cA, 90, .inl wr)), (r5, .inl (cA, 90, .inl nm))]
/-- bits of the first masks -/
def rx_tr (wr : Nat → Int32) : Nat → Nat
  | 0 => 0
  | k + 1 => rx_tr wr k + mo_bits (wr k) 32
/-- bits of d masks from lev on -/
def rx_sm (wr : Nat → Int32) (lev : Nat) : Nat → Nat
  | 0 => 0
  | d + 1 => rx_sm wr lev d + mo_bits (wr (lev + d)) 32
theorem rx_sm_le (wr : Nat → Int32) (lev : Nat) : ∀ d, rx_sm wr lev d ≤ 32 * d
  | 0 => Nat.le_refl _
  | d + 1 => by
    have h := rx_sm_le wr lev d
    have h2 := mo_bits_le (wr (lev + d)) 32
    rw [rx_sm]; omega
theorem rx_tr_le (wr : Nat → Int32) : ∀ d, rx_tr wr d ≤ 32 * d
  | 0 => Nat.le_refl _
  | d + 1 => by
    have h := rx_tr_le wr d
    have h2 := mo_bits_le (wr d) 32
    rw [rx_tr]; omega
/-- the row of level n is the cells', up to place t -/
def rx_op (we ce : Nat → Int32) (n t : Nat) : Nat → Int32 := fun j => if 32 * n ≤ j ∧ j < 32 * n + t then ce (j - 32 * n) else we j
theorem rx_op_0 (we ce : Nat → Int32) (n : Nat) : rx_op we ce n 0 = we := by
  funext j; rw [rx_op, if_neg (by omega)]
theorem rx_op_s (we ce : Nat → Int32) (n t : Nat) : upd (rx_op we ce n t) (32 * n + t) (ce t) = rx_op we ce n (t + 1) := by
  funext j
  rcases Nat.decEq j (32 * n + t) with q | q
  · rw [pk_un q]
    simp only [rx_op]
    by_cases h : 32 * n ≤ j ∧ j < 32 * n + t
    · rw [if_pos h, if_pos (by omega)]
    · rw [if_neg h, if_neg (by omega)]
  · subst q
    rw [pk_us, rx_op, if_pos (by omega)]
    congr 1; omega
/-- the rows of the levels behind lev moved down, up to place i -/
def rx_sw (we : Nat → Int32) (lev i : Nat) : Nat → Int32 := fun j => if 32 * lev ≤ j ∧ j < i then we (j + 32) else we j
theorem rx_sw_0 (we : Nat → Int32) (lev : Nat) : rx_sw we lev (32 * lev) = we := by
  funext j; rw [rx_sw, if_neg (by omega)]
theorem rx_sw_s (we : Nat → Int32) (lev k c : Nat) (h : lev ≤ k) : upd (rx_sw we lev (32 * k + c)) (32 * k + c) (rx_sw we lev (32 * k + c) (32 * (k + 1) + c)) = rx_sw we lev (32 * k + (c + 1)) := by
  funext j
  rcases Nat.decEq j (32 * k + c) with q | q
  · rw [pk_un q]
    simp only [rx_sw]
    by_cases h1 : 32 * lev ≤ j ∧ j < 32 * k + c
    · rw [if_pos h1, if_pos (by omega)]
    · rw [if_neg h1, if_neg (by omega)]
  · subst q
    rw [pk_us]
    simp only [rx_sw]
    rw [if_neg (by omega), if_pos (by omega)]
    congr 1; omega
theorem rx_sh_s (nm : Nat → Int32) (lev k : Nat) (h : lev ≤ k) : upd (kx_sh nm lev (k + 1)) k (kx_sh nm lev (k + 1) (k + 1)) = kx_sh nm lev (k + 1 + 1) := kx_sh_s nm lev (k + 1) (by omega)
/-- cells out of a row, up to place c -/
def rx_ce (ce we : Nat → Int32) (lev c : Nat) : Nat → Int32 := fun j => if j < c then we (32 * lev + j) else ce j
theorem rx_ce_0 (ce we : Nat → Int32) (lev : Nat) : rx_ce ce we lev 0 = ce := by
  funext j; rw [rx_ce, if_neg (by omega)]
theorem rx_ce_s (ce we : Nat → Int32) (lev c : Nat) : upd (rx_ce ce we lev c) c (we (32 * lev + c)) = rx_ce ce we lev (c + 1) := by
  funext j
  rcases Nat.decEq j c with q | q
  · rw [pk_un q]
    simp only [rx_ce]
    by_cases h : j < c
    · rw [if_pos h, if_pos (by omega)]
    · rw [if_neg h, if_neg (by omega)]
  · subst q
    rw [pk_us, rx_ce, if_pos (by omega)]
theorem rx_fill_0 (f : Nat → Int32) (v : Int32) : kx_fill f v 0 = f := by
  funext j; rw [kx_fill, if_neg (by omega)]
def rx_td (told : Int32) : Int32 := if told ≤ nI 1 then told else told - nI 1
theorem rx_td_a {told : Int32} (h : told ≤ 0) : told - nI 0 = rx_td told := by
  have h1 : told ≤ nI 1 := Int32.le_trans h (by decide)
  rw [rx_td, if_pos h1]; simp [nI_0]
theorem rx_td_b {told : Int32} (h : ¬ told ≤ 0) (h1 : ¬ told = nI 1) : told - nI 1 = rx_td told := by
  have h2 : ¬ told ≤ nI 1 := by
    intro q
    rw [Int32.le_iff_toInt_le] at q h
    have e : (nI 1).toInt = 1 := by decide
    have e0 : (0 : Int32).toInt = 0 := by decide
    rw [e] at q; rw [e0] at h
    have h3 : told.toInt = 1 := by omega
    exact h1 (Int32.toInt_inj.mp (by rw [h3, e]))
  rw [rx_td, if_neg h2]
theorem rx_pw_c {w : Nat → Int32} {told wia off : Int32} {i : Nat} {v : Int32} (ho : off = 0) (h : told = nI 1) : kx_pw (w, told, wia, off) i v = (w, nI 0, wia, nI 1) := by
  rw [kx_pw, if_pos ho, if_pos h]
theorem rx_pw_w {w : Nat → Int32} {told wia off : Int32} {i : Nat} {v : Int32} (ho : off = 0) (h : ¬ told = nI 1) : kx_pw (w, told, wia, off) i v = (upd w i v, rx_td told, wia + nI 1, off) := by
  rw [kx_pw, if_pos ho, if_neg h]; rfl
theorem rx_pw_off {D : kx_D} {i : Nat} {v : Int32} (h : ¬ D.2.2.2 = 0) : kx_pw D i v = D := by rw [kx_pw, if_neg h]
theorem rx_we_off {tr : Int32} {ce : Nat → Int32} {D : kx_D} {k : Nat} (h : ¬ (kx_we tr ce D k).1.2.2.2 = 0) : ∀ d, (kx_we tr ce D (k + d)).1 = (kx_we tr ce D k).1
  | 0 => rfl
  | d + 1 => by
    have ih := rx_we_off h d
    show (kx_we tr ce D (k + d + 1)).1 = _
    rw [kx_we]
    split
    · exact ih
    · show kx_pw (kx_pw _ _ _) _ _ = _
      rw [rx_pw_off (D := (kx_we tr ce D (k + d)).1) (by rw [ih]; exact h), rx_pw_off (by rw [ih]; exact h)]
      exact ih
theorem rx_wh_off {tr : Int32} {ce : Nat → Int32} {D : kx_D} {k : Nat} (h : ¬ (kx_wh tr ce D k).2.2.2 = 0) : ∀ d, kx_wh tr ce D (k + d) = kx_wh tr ce D k
  | 0 => rfl
  | d + 1 => by
    have ih := rx_wh_off h d
    show kx_wh tr ce D (k + d + 1) = _
    rw [kx_wh]
    split
    · exact ih
    · rw [rx_pw_off (by rw [ih]; exact h)]
      exact ih
theorem rx_kd_k2 {tr : Int32} {ce : Nat → Int32} {D : kx_D} (h : ¬ (kx_k2 tr ce D).2.2.2 = 0) : kx_kd tr ce D = kx_k2 tr ce D := by
  rw [kx_kd]
  split
  · rfl
  · have e : kx_pw (kx_k2 tr ce D) 32 (kx_bc tr) = kx_k2 tr ce D := rx_pw_off h
    rw [e]
    have e2 : kx_wh tr ce (kx_k2 tr ce D) 32 = kx_k2 tr ce D := rx_wh_off (k := 0) h 32
    rw [e2, rx_pw_off h]
theorem rx_kd_k1 {tr : Int32} {ce : Nat → Int32} {D : kx_D} (h : ¬ (kx_k1 tr ce D).2.2.2 = 0) : kx_kd tr ce D = kx_k1 tr ce D := by
  have e : kx_k2 tr ce D = kx_k1 tr ce D := rx_pw_off h
  rw [rx_kd_k2 (by rw [e]; exact h), e]
theorem rx_kd_we {tr : Int32} {ce : Nat → Int32} {D : kx_D} {k : Nat} (hk : k ≤ 32) (h : ¬ (kx_we tr ce D k).1.2.2.2 = 0) : kx_kd tr ce D = (kx_we tr ce D k).1 := by
  have e : kx_k1 tr ce D = (kx_we tr ce D k).1 := by
    have := rx_we_off h (32 - k)
    rw [show k + (32 - k) = 32 by omega] at this
    exact this
  rw [rx_kd_k1 (by rw [e]; exact h), e]
theorem rx_we_n (tr : Int32) (ce : Nat → Int32) (D : kx_D) : ∀ k, k ≤ 32 → (kx_we tr ce D k).2 = 34 + 2 * mo_bits tr k
  | 0, _ => rfl
  | k + 1, h => by
    have ih := rx_we_n tr ce D k (by omega)
    have hb := mo_b_le tr k
    rw [kx_we, mo_bits]
    by_cases q : kx_holds tr (nI k) = 0
    · rw [if_pos q, ih, (mb_holds0 tr (by omega)).mp q]; rfl
    · rw [if_neg q]
      have : mo_b tr k = 1 := by
        have h9 : ¬ mo_b tr k = 0 := fun r => q ((mb_holds0 tr (by omega)).mpr r)
        omega
      show (kx_we tr ce D k).2 + 2 = _
      rw [ih, this]; omega
theorem rx_kd_0 {tr : Int32} {ce : Nat → Int32} {D : kx_D} (h : mo_bits tr 32 = 0) : kx_kd tr ce D = kx_k2 tr ce D := by
  rw [kx_kd, kx_bc_bits, h, if_pos (by decide)]
theorem rx_kd_n {tr : Int32} {ce : Nat → Int32} {D : kx_D} (h : 0 < mo_bits tr 32) : kx_kd tr ce D = kx_pw (kx_wh tr ce (kx_pw (kx_k2 tr ce D) 32 (nI (mo_bits tr 32))) 32) 32 (nI 0) := by
  have h2 := mo_bits_le tr 32
  rw [kx_kd, kx_bc_bits, if_neg]
  intro q
  rw [← nI_0] at q
  have := (nI_leI (by omega) (by omega)).mp q
  omega
theorem rx_kd_m {tr : Int32} {ce : Nat → Int32} {D : kx_D} (h : 0 < mo_bits tr 32) (h3 : ¬ (kx_pw (kx_k2 tr ce D) 32 (nI (mo_bits tr 32))).2.2.2 = 0) : kx_kd tr ce D = kx_pw (kx_k2 tr ce D) 32 (nI (mo_bits tr 32)) := by
  rw [rx_kd_n h]
  have e2 : kx_wh tr ce (kx_pw (kx_k2 tr ce D) 32 (nI (mo_bits tr 32))) 32 = kx_pw (kx_k2 tr ce D) 32 (nI (mo_bits tr 32)) := rx_wh_off (k := 0) h3 32
  rw [e2, rx_pw_off h3]
theorem rx_kd_h {tr : Int32} {ce : Nat → Int32} {D : kx_D} {k : Nat} (hk : k ≤ 32) (h : 0 < mo_bits tr 32) (h3 : ¬ (kx_wh tr ce (kx_pw (kx_k2 tr ce D) 32 (nI (mo_bits tr 32))) k).2.2.2 = 0) : kx_kd tr ce D = kx_wh tr ce (kx_pw (kx_k2 tr ce D) 32 (nI (mo_bits tr 32))) k := by
  rw [rx_kd_n h]
  have e := rx_wh_off h3 (32 - k)
  rw [show k + (32 - k) = 32 by omega] at e
  rw [e, rx_pw_off h3]
/-- masks of the levels from the last down to place j, each into the one before -/
def rx_cw (j : Nat) : Nat → (Nat → Int32) → (Nat → Int32)
  | 0, wr => wr
  | k + 1, wr => if k + 1 ≤ j then wr else rx_cw j k (upd wr (k - 1) (wr (k - 1) ||| wr k))
/-- homes out of entries -/
def rx_hf (w : Nat → Int32) : Nat → (Nat → Int32) × Nat
  | 0 => (w, 0)
  | j + 1 => if kx_isCell ((rx_hf w j).1 (34 + 2 * j)) = 0 then rx_hf w j
    else (upd (rx_hf w j).1 ((rx_hf w j).1 (34 + 2 * j)).toNatClampNeg ((rx_hf w j).1 (34 + 2 * j + 1)), (rx_hf w j).2 + 1)
theorem rx_hf_le (w : Nat → Int32) : ∀ k, (rx_hf w k).2 ≤ k
  | 0 => Nat.le_refl _
  | k + 1 => by
    have h := rx_hf_le w k
    rw [rx_hf]
    split
    · omega
    · exact Nat.succ_le_succ h
theorem rx_hf_o (w : Nat → Int32) (k : Nat) (h : 32 ≤ k) : ∀ j, (rx_hf w j).1 k = w k
  | 0 => rfl
  | j + 1 => by
    rw [rx_hf]
    split
    · exact rx_hf_o w k h j
    · rename_i h1
      obtain ⟨ci, hci, eci⟩ := kx_isCell_of h1
      show upd _ _ _ k = _
      rw [pk_un (by rw [eci, nI_clamp (by omega)]; omega)]
      exact rx_hf_o w k h j
theorem rx_cpy_0 (f g : Nat → Int32) : va_cpy f g 0 0 0 = g := by
  funext j; rw [va_cpy, if_neg (by omega)]
theorem rx_cpy_s (f g : Nat → Int32) (t : Nat) : upd (va_cpy f g 0 0 t) t (f t) = va_cpy f g 0 0 (t + 1) := by
  funext j
  rcases Nat.decEq j t with q | q
  · rw [pk_un q]
    simp only [va_cpy]
    by_cases h : 0 ≤ j ∧ j < 0 + t
    · rw [if_pos h, if_pos (by omega)]
    · rw [if_neg h, if_neg (by omega)]
  · subst q
    rw [pk_us]
    simp only [va_cpy]
    rw [if_pos (by omega)]
    congr 1; omega
theorem rx_lt1 {x : Int32} (h : x < nI 1) : x ≤ nI 0 := by
  rw [Int32.lt_iff_toInt_lt] at h
  rw [Int32.le_iff_toInt_le]
  have e : (nI 1).toInt = 1 := by decide
  have e0 : (nI 0).toInt = 0 := by decide
  omega
theorem rx_inn_here {nm : Nat → Int32} {i : Nat} (h : nm i = (-1)) : kx_inn nm (i + 1) = i + 1 := by rw [kx_inn, if_pos h]
theorem rx_inn_next {nm : Nat → Int32} {i : Nat} (h : ¬ nm i = (-1)) : kx_inn nm (i + 1) = kx_inn nm i := by rw [kx_inn, if_neg h]
