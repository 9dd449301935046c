/-! the class: its world, and what its methods compute -/
abbrev wX0 (cA : ClassId) (h0 q0 q1 q2 q3 q4 q5 : Nat) (w ce nm tl tc tw : Nat → Int32) (T n m : Nat) (wtc wia off : Int32) : va_W :=
  [(h0, .inr (0, [.ref q0, .ref q1, .ref q2, .ref q3, .ref q4, .ref q5, .int (nI T), .int (nI n), .int (nI m), .int wtc, .int wia, .int off])), (q0, .inl (cA, 98, .inl w)), (q1, .inl (cA, 32, .inl ce)), (q2, .inl (cA, 88, .inl nm)), (q3, .inl (cA, 60, .inl tl)), (q4, .inl (cA, 60, .inl tc)), (q5, .inl (cA, 60, .inl tw))]
def kx_holds (set cell : Int32) : Int32 := if ((set.toUInt32 >>> (cell.toUInt32 &&& Int32.toUInt32 31)).toInt32 &&& nI 1) = 0 then nI 0 else nI 1
def kx_isCell (cell : Int32) : Int32 := if cell < 0 then nI 0 else if nI 32 ≤ cell then nI 0 else nI 1
/-- the place behind the innermost transaction's first level among n: 0 for none -/
def kx_inn (nm : Nat → Int32) : Nat → Nat
  | 0 => 0
  | k + 1 => if nm k = (-1) then k + 1 else kx_inn nm k
theorem kx_inn_le (nm : Nat → Int32) : ∀ k, kx_inn nm k ≤ k
  | 0 => Nat.le_refl 0
  | k + 1 => by
    have h := kx_inn_le nm k
    rw [kx_inn]
    split <;> omega
/-- the place behind the latest level of that name at or behind place j -/
def kx_pl (nm : Nat → Int32) (name : Int32) (j : Nat) : Nat → Nat
  | 0 => 0
  | k + 1 => if k + 1 ≤ j then 0 else if nm k = name then k + 1 else kx_pl nm name j k
theorem kx_pl_le (nm : Nat → Int32) (name : Int32) (j : Nat) : ∀ k, kx_pl nm name j k ≤ k
  | 0 => Nat.le_refl 0
  | k + 1 => by
    have h := kx_pl_le nm name j k
    rw [kx_pl]
    split
    · omega
    · split <;> omega
theorem kv_pred (n : Nat) : nI (n + 1) - nI 1 = nI n := by rw [pk_sub (by omega)]; rfl
theorem kv_decr (x : Int32) : x + Int32.ofInt (-1) = x - nI 1 := by
  rw [Int32.sub_eq_add_neg]; rfl
theorem kv_m1 : nI 0 - nI 1 = -1 := by decide
theorem kv_m1T {a : Nat} (ha : a < 2 ^ 31) : (nI a - nI 1).toInt = (a : Int) - 1 := by
  cases a with
  | zero => decide
  | succ b => rw [kv_pred, nI_toInt (by omega)]; omega
theorem kv_m1le {a b : Nat} (ha : a < 2 ^ 31) (hb : b < 2 ^ 31) : nI a - nI 1 ≤ nI b - nI 1 ↔ a ≤ b := by
  rw [Int32.le_iff_toInt_le, kv_m1T ha, kv_m1T hb]; omega
theorem kv_m1lt0 {a : Nat} (ha : a < 2 ^ 31) : nI a - nI 1 < 0 ↔ a = 0 := by
  rw [Int32.lt_iff_toInt_lt, kv_m1T ha]
  show (a : Int) - 1 < 0 ↔ a = 0
  omega
theorem kv_m1sub {a b : Nat} (h : b ≤ a) : nI a - nI 1 - (nI b - nI 1) = nI (a - b) := by
  rw [← pk_sub h]
  simp only [Int32.sub_eq_add_neg, Int32.neg_add, Int32.neg_neg]
  rw [Int32.add_assoc, ← Int32.add_assoc (-nI 1), Int32.add_comm (-nI 1), Int32.add_assoc, Int32.add_comm (-nI 1), Int32.add_right_neg, Int32.add_zero]
def kx_tc (tl tc : Nat → Int32) (lv : Int32) : Nat → Int32
  | 0 => 0
  | k + 1 => if tl k = lv then kx_tc tl tc lv k ||| ((nI 1) <<< (tc k &&& 31)) else kx_tc tl tc lv k
/-- the traces behind a fold, when k of them are looked at: how many are kept, and the three arrays -/
def kx_fo (bef lv : Int32) (tl tc tw : Nat → Int32) : Nat → Nat × (Nat → Int32) × (Nat → Int32) × (Nat → Int32)
  | 0 => (0, tl, tc, tw)
  | t + 1 => if (kx_fo bef lv tl tc tw t).2.1 t = lv ∧ ¬ kx_holds bef ((kx_fo bef lv tl tc tw t).2.2.1 t) = 0 then kx_fo bef lv tl tc tw t
    else ((kx_fo bef lv tl tc tw t).1 + 1,
      upd (kx_fo bef lv tl tc tw t).2.1 (kx_fo bef lv tl tc tw t).1 (if lv ≤ (kx_fo bef lv tl tc tw t).2.1 t then (kx_fo bef lv tl tc tw t).2.1 t - nI 1 else (kx_fo bef lv tl tc tw t).2.1 t),
      upd (kx_fo bef lv tl tc tw t).2.2.1 (kx_fo bef lv tl tc tw t).1 ((kx_fo bef lv tl tc tw t).2.2.1 t),
      upd (kx_fo bef lv tl tc tw t).2.2.2 (kx_fo bef lv tl tc tw t).1 ((kx_fo bef lv tl tc tw t).2.2.2 t))
theorem kx_fo_le (bef lv : Int32) (tl tc tw : Nat → Int32) : ∀ t, (kx_fo bef lv tl tc tw t).1 ≤ t
  | 0 => Nat.le_refl 0
  | t + 1 => by
    have h := kx_fo_le bef lv tl tc tw t
    rw [kx_fo]
    split
    · omega
    · exact Nat.succ_le_succ h
/-- names when the levels behind lev moved down, up to place i -/
def kx_sh (nm : Nat → Int32) (lev i : Nat) : Nat → Int32 := fun j => if lev ≤ j ∧ j + 1 < i then nm (j + 1) else nm j
theorem kx_sh_0 (nm : Nat → Int32) (lev : Nat) : kx_sh nm lev (lev + 1) = nm := by
  funext j
  rw [kx_sh, if_neg (by omega)]
theorem kx_sh_s (nm : Nat → Int32) (lev i : Nat) (h : lev < i) : upd (kx_sh nm lev i) (i - 1) (kx_sh nm lev i i) = kx_sh nm lev (i + 1) := by
  funext j
  rcases Nat.decEq j (i - 1) with q | q
  · rw [pk_un q]
    simp only [kx_sh]
    by_cases h1 : lev ≤ j ∧ j + 1 < i
    · rw [if_pos h1, if_pos (by omega)]
    · rw [if_neg h1, if_neg (by omega)]
  · subst q
    rw [pk_us]
    simp only [kx_sh]
    rw [if_neg (by omega), if_pos (by omega)]
    congr 1
    omega
/-- back over the traces of the levels from lev on: traces left, cells, how many are gone -/
def kx_gb (tl tc tw : Nat → Int32) (lev : Int32) : Nat → (Nat → Int32) → Nat → Nat × (Nat → Int32) × Nat
  | 0, ce, g => (0, ce, g)
  | k + 1, ce, g => if tl k < lev then (k + 1, ce, g) else kx_gb tl tc tw lev k (upd ce (tc k).toNatClampNeg (tw k)) (g + 1)
/-- a word is put: words, writes till crash, writes in all, off -/
def kx_pw (D : (Nat → Int32) × Int32 × Int32 × Int32) (i : Nat) (v : Int32) : (Nat → Int32) × Int32 × Int32 × Int32 :=
  if D.2.2.2 = 0 then
    if D.2.1 = nI 1 then (D.1, nI 0, D.2.2.1, nI 1) else (upd D.1 i v, if D.2.1 ≤ nI 1 then D.2.1 else D.2.1 - nI 1, D.2.2.1 + nI 1, D.2.2.2)
  else D
def kx_we (tr : Int32) (ce : Nat → Int32) (D : (Nat → Int32) × Int32 × Int32 × Int32) : Nat → ((Nat → Int32) × Int32 × Int32 × Int32) × Nat
  | 0 => (D, 34)
  | k + 1 => if kx_holds tr (nI k) = 0 then kx_we tr ce D k
    else (kx_pw (kx_pw (kx_we tr ce D k).1 (kx_we tr ce D k).2 (nI k)) ((kx_we tr ce D k).2 + 1) (ce k), (kx_we tr ce D k).2 + 2)
theorem kx_we_le (tr : Int32) (ce : Nat → Int32) (D : (Nat → Int32) × Int32 × Int32 × Int32) : ∀ k, 34 ≤ (kx_we tr ce D k).2 ∧ (kx_we tr ce D k).2 ≤ 34 + 2 * k
  | 0 => ⟨Nat.le_refl _, Nat.le_refl _⟩
  | k + 1 => by
    have h := kx_we_le tr ce D k
    rw [kx_we]
    split
    · omega
    · show 34 ≤ (kx_we tr ce D k).2 + 2 ∧ (kx_we tr ce D k).2 + 2 ≤ _
      omega
def kx_wh (tr : Int32) (ce : Nat → Int32) (D : (Nat → Int32) × Int32 × Int32 × Int32) : Nat → (Nat → Int32) × Int32 × Int32 × Int32
  | 0 => D
  | k + 1 => if kx_holds tr (nI k) = 0 then kx_wh tr ce D k else kx_pw (kx_wh tr ce D k) k (ce k)
/-- homes out of entries: the disk, and how many homes were written -/
def kx_hf (D : (Nat → Int32) × Int32 × Int32 × Int32) : Nat → ((Nat → Int32) × Int32 × Int32 × Int32) × Nat
  | 0 => (D, 0)
  | j + 1 => if kx_isCell ((kx_hf D j).1.1 (34 + 2 * j)) = 0 then kx_hf D j
    else (kx_pw (kx_hf D j).1 ((kx_hf D j).1.1 (34 + 2 * j)).toNatClampNeg ((kx_hf D j).1.1 (34 + 2 * j + 1)), (kx_hf D j).2 + 1)
theorem kx_hf_le (D : (Nat → Int32) × Int32 × Int32 × Int32) : ∀ k, (kx_hf D k).2 ≤ k
  | 0 => Nat.le_refl _
  | k + 1 => by
    have h := kx_hf_le D k
    rw [kx_hf]
    split
    · omega
    · exact Nat.succ_le_succ h
def kx_bc (x : Int32) : Int32 :=
  let a := x - ((x.toUInt32 >>> ((nI 1).toUInt32 &&& Int32.toUInt32 31)).toInt32 &&& 1431655765)
  let b := (a &&& 858993459) + ((a.toUInt32 >>> ((nI 2).toUInt32 &&& Int32.toUInt32 31)).toInt32 &&& 858993459)
  let d := (b + (b.toUInt32 >>> ((nI 4).toUInt32 &&& Int32.toUInt32 31)).toInt32) &&& 252645135
  let f := d + (d.toUInt32 >>> ((nI 8).toUInt32 &&& Int32.toUInt32 31)).toInt32
  let g := f + (f.toUInt32 >>> ((nI 16).toUInt32 &&& Int32.toUInt32 31)).toInt32
  g &&& nI 63
theorem kx_isCell_n {c : Nat} (h : c < 32) : kx_isCell (nI c) = nI 1 := by
  rw [kx_isCell, if_neg (nI_pos (by omega)), if_neg (fun q => absurd ((nI_leI (by omega) (by omega)).mp q) (by omega))]
theorem kx_isCell_of {v : Int32} (h : ¬ kx_isCell v = 0) : ∃ c : Nat, c < 32 ∧ v = nI c := by
  by_cases h1 : v < 0
  · exact absurd (by rw [kx_isCell, if_pos h1]; rfl) h
  · obtain ⟨j, hj, rfl⟩ := nI_of h1
    by_cases h2 : nI 32 ≤ nI j
    · exact absurd (by rw [kx_isCell, if_neg h1, if_pos h2]; rfl) h
    · exact ⟨j, Nat.lt_of_not_le (fun q => h2 ((nI_leI (by omega) hj).mpr q)), rfl⟩
theorem kv_n10 : ¬ nI 1 = 0 := by decide
theorem kv_nm1 {a : Nat} (ha : a < 2 ^ 31) : ¬ nI a = (-1) := fun h => absurd (nI_pos' ha) (by rw [h]; decide)
def kx_fill (f : Nat → Int32) (v : Int32) (i : Nat) : Nat → Int32 := fun j => if j < i then v else f j
theorem kx_fill_s (f : Nat → Int32) (v : Int32) (i : Nat) : upd (kx_fill f v i) i v = kx_fill f v (i + 1) := by
  funext j
  rcases Nat.decEq j i with q | q
  · rw [pk_un q]
    simp only [kx_fill]
    by_cases h : j < i
    · rw [if_pos h, if_pos (by omega)]
    · rw [if_neg h, if_neg (by omega)]
  · subst q
    rw [pk_us, kx_fill, if_pos (by omega)]
abbrev kx_D : Type := (Nat → Int32) × Int32 × Int32 × Int32
def kx_k1 (tr : Int32) (ce : Nat → Int32) (D : kx_D) : kx_D := (kx_we tr ce D 32).1
def kx_k2 (tr : Int32) (ce : Nat → Int32) (D : kx_D) : kx_D := kx_pw (kx_k1 tr ce D) 33 ((kx_k1 tr ce D).1 33 + nI 1)
/-- the writes of the outermost commit of the cells tr -/
def kx_kd (tr : Int32) (ce : Nat → Int32) (D : kx_D) : kx_D :=
  if kx_bc tr ≤ 0 then kx_k2 tr ce D else kx_pw (kx_wh tr ce (kx_pw (kx_k2 tr ce D) 32 (kx_bc tr)) 32) 32 (nI 0)
/-- names, trace levels, trace cells, trace values, levels, traces -/
abbrev kx_F : Type := (Nat → Int32) × (Nat → Int32) × (Nat → Int32) × (Nat → Int32) × Nat × Nat
def kx_fot (S : kx_F) (lev : Nat) : Nat × (Nat → Int32) × (Nat → Int32) × (Nat → Int32) := kx_fo (kx_tc S.2.1 S.2.2.1 (nI (lev - 1)) S.2.2.2.2.2) (nI lev) S.2.1 S.2.2.1 S.2.2.2.1 S.2.2.2.2.2
/-- level lev goes up in the one before it -/
def kx_fd (S : kx_F) (lev : Nat) : kx_F := (kx_sh S.1 lev S.2.2.2.2.1, (kx_fot S lev).2.1, (kx_fot S lev).2.2.1, (kx_fot S lev).2.2.2, S.2.2.2.2.1 - 1, (kx_fot S lev).1)
/-- the levels from the last down to place j go up, one after the other -/
def kx_cm (j : Nat) : Nat → kx_F → kx_F
  | 0, S => S
  | k + 1, S => if k + 1 ≤ j then S else kx_cm j k (kx_fd S k)
theorem kx_fd_z (S : kx_F) (lev : Nat) : (kx_fd S lev).2.2.2.2.2 ≤ S.2.2.2.2.2 := kx_fo_le _ _ _ _ _ _
theorem kx_cm_z (j : Nat) : ∀ (k : Nat) (S : kx_F), (kx_cm j k S).2.2.2.2.2 ≤ S.2.2.2.2.2
  | 0, S => Nat.le_refl _
  | k + 1, S => by
    rw [kx_cm]
    split
    · exact Nat.le_refl _
    · exact Nat.le_trans (kx_cm_z j k _) (kx_fd_z S k)
theorem kx_cm_n (j : Nat) (hj : 1 ≤ j) : ∀ (k : Nat) (S : kx_F), S.2.2.2.2.1 = k → j ≤ k → (kx_cm j k S).2.2.2.2.1 = j
  | 0, S, _, h2 => by omega
  | k + 1, S, h, h2 => by
    rw [kx_cm]
    by_cases q : k + 1 ≤ j
    · rw [if_pos q]; omega
    · rw [if_neg q]
      exact kx_cm_n j hj k (kx_fd S k) (by show S.2.2.2.2.1 - 1 = k; omega) (by omega)
