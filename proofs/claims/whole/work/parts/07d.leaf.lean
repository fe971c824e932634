/-! LEAVES: methods without cells -/
theorem c_isTable (M : pm_M) (t : Int32) : pm_C mX6_isTable [.int t] M = some (.int (fp_b (0 ≤ t.toInt ∧ t.toInt < 8)), M) := by
  rw [e_X6_isTable]
  simp only [Int32.lt_iff_toInt_lt, Int32.le_iff_toInt_le]
  unfold fp_b
  repeat' split
  all_goals first | rfl | (exfalso; simp at *; omega)
theorem c_isShape (M : pm_M) (q a : Int32) : pm_C mX6_isShape [.int q, .int a] M = some (.int (fp_b ((1 ≤ q.toInt ∧ q.toInt < 4) ∧ 2 ≤ a.toInt ∧ a.toInt < 4)), M) := by
  rw [e_X6_isShape]
  simp only [Int32.lt_iff_toInt_lt, Int32.le_iff_toInt_le, ← Int32.toInt_inj]
  unfold fp_b
  repeat' split
  all_goals first | rfl | (exfalso; simp at *; omega)
theorem c_isPart (M : pm_M) (p : Int32) : pm_C mX6_isPart [.int p] M = some (.int (fp_b (0 ≤ p.toInt ∧ p.toInt < 2)), M) := by
  rw [e_X6_isPart]
  simp only [← Int32.toInt_inj]
  unfold fp_b
  repeat' split
  all_goals first | rfl | (exfalso; simp at *; omega)
theorem r_isIn (M : pm_M) (x y z : Int64) : pm_C mX7_isIn [.long x, .long y, .long z] M = some (.int (fp_b (y.toInt ≤ x.toInt ∧ x.toInt ≤ z.toInt)), M) := by
  rw [e_X7_isIn]
  simp only [fp_cmp_lt, fp_cmp_gt, Int64.lt_iff_toInt_lt]
  unfold fp_b
  repeat' split
  all_goals first | rfl | (exfalso; omega)
theorem r_isTable (M : pm_M) (t : Int32) : pm_C mX7_isTable [.int t] M = some (.int (fp_b (0 ≤ t.toInt ∧ t.toInt < 8)), M) := by
  rw [e_X7_isTable, r_isIn, fp_oI']
  simp only [Option.bind_some]
  rw [if_pos fp_b_01]
  unfold fp_b
  repeat' split
  all_goals first | rfl | (exfalso; simp at *; omega)
theorem r_isShape (M : pm_M) (q a : Int32) : pm_C mX7_isShape [.int q, .int a] M = some (.int (fp_b ((1 ≤ q.toInt ∧ q.toInt < 4) ∧ 2 ≤ a.toInt ∧ a.toInt < 4)), M) := by
  rw [e_X7_isShape, r_isIn, fp_oI']
  simp only [Option.bind_some, fp_b_0, r_isIn, fp_oI']
  unfold fp_b
  repeat' split
  all_goals first | rfl | (exfalso; simp at *; omega)
/-- a row of questions or answers: both below the limit -/
def fp_row (x : Int32) (k : Nat) : Prop := ∃ i j, i < k ∧ j < k ∧ i < 3 ∧ j < 3 ∧ x = nI (3 * i + j)
/-! rows filled from below -/
theorem fp_fs {α : Type} (F g : Nat → α) (i : Nat) : va_up (fun j => if j < i then F j else g j) i (F i) = fun j => if j < i + 1 then F j else g j := by
  funext j
  unfold va_up
  by_cases hj : j = i
  · rw [if_pos hj, if_pos (by omega), hj]
  · rw [if_neg hj]
    by_cases hj2 : j < i
    · show (if j < i then F j else g j) = _
      rw [if_pos hj2, if_pos (by omega)]
    · show (if j < i then F j else g j) = _
      rw [if_neg hj2, if_neg (by omega)]
theorem fp_fs0 {α : Type} (F g : Nat → α) : (fun j => if j < 0 then F j else g j) = g := by
  funext j
  exact if_neg (Nat.not_lt_zero j)
theorem fp_ups {α : Type} (f : Nat → α) (r : Nat) : va_up f r (f r) = f := by
  funext j
  unfold va_up
  by_cases hj : j = r
  · rw [if_pos hj, hj]
  · rw [if_neg hj]
/-! compares with literals -/
theorem fp_ge {n i : Nat} (h : i < OfNat.ofNat n) (hn : n < 2 ^ 31) : ¬ ((OfNat.ofNat n : Int32) ≤ nI i) := nI_ge h hn
theorem fp_le {n i : Nat} (h : OfNat.ofNat n ≤ i) (hi : i < 2 ^ 31) : (OfNat.ofNat n : Int32) ≤ nI i := nI_le h hi
theorem fp_ne {n i : Nat} (h : i ≠ OfNat.ofNat n) (hi : i < 2 ^ 31) (hn : n < 2 ^ 31) : ¬ (nI i = (OfNat.ofNat n : Int32)) := fun q => h ((nI_eq hi hn).mp q)
theorem fp_mulL (n i : Nat) : (OfNat.ofNat n : Int32) * nI i = nI (OfNat.ofNat n * i) := pk_mul n i
theorem fp_addR (n i : Nat) : nI i + (OfNat.ofNat n : Int32) = nI (i + OfNat.ofNat n) := nI_add i n
theorem fp_addL (n i : Nat) : (OfNat.ofNat n : Int32) + nI i = nI (OfNat.ofNat n + i) := nI_add n i
theorem fp_divR {n i : Nat} (hi : i < 2 ^ 31) (h0 : 0 < n) (hn : n < 2 ^ 31) : nI i / (OfNat.ofNat n : Int32) = nI (i / OfNat.ofNat n) := pk_div hi h0 hn
theorem fp_remR {n i : Nat} (hi : i < 2 ^ 31) (h0 : 0 < n) (hn : n < 2 ^ 31) : pm_rem (nI i) (OfNat.ofNat n : Int32) = nI (i % OfNat.ofNat n) := fp_rem hi h0 hn
/-- a window filled from below -/
theorem fp_fw {α : Type} (F g : Nat → α) (a i : Nat) : va_up (fun j => if a ≤ j ∧ j < a + i then F (j - a) else g j) (a + i) (F i) = fun j => if a ≤ j ∧ j < a + (i + 1) then F (j - a) else g j := by
  funext j
  unfold va_up
  by_cases hj : j = a + i
  · rw [if_pos hj, if_pos (by omega), hj, Nat.add_sub_cancel_left]
  · rw [if_neg hj]
    show (if a ≤ j ∧ j < a + i then F (j - a) else g j) = _
    by_cases hj2 : a ≤ j ∧ j < a + i
    · rw [if_pos hj2, if_pos (by omega)]
    · rw [if_neg hj2, if_neg (by omega)]
theorem fp_fw0 {α : Type} (F g : Nat → α) (a : Nat) : (fun j => if a ≤ j ∧ j < a + 0 then F (j - a) else g j) = g := by
  funext j
  exact if_neg (by omega)
