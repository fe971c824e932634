/-! WHAT EVERY CALL BEGINS WITH, of a table that is one -/
theorem fp_10 : ((1 : Int32) = 0) = False := eq_false (by decide)
theorem fp_L10 : ((1 : Int64) = 0) = False := eq_false (by decide)
def fp_rowb (x : Int32) (k : Nat) : Prop := 0 ≤ x.toInt ∧ x.toInt < 9 ∧ x.toInt.toNat / 3 < k ∧ x.toInt.toNat % 3 < k
theorem fp_rowb_n {n k : Nat} (h : n < 9) : fp_rowb (nI n) k ↔ n / 3 < k ∧ n % 3 < k := by
  unfold fp_rowb
  rw [nI_toInt (by omega)]
  constructor
  · rintro ⟨-, -, h1⟩; simpa using h1
  · intro h1; exact ⟨by omega, by omega, by simpa using h1⟩
theorem fp_rowb_of {x : Int32} {k : Nat} (h : fp_rowb x k) : ∃ n, n < 9 ∧ n / 3 < k ∧ n % 3 < k ∧ x = nI n := by
  obtain ⟨n, hn, rfl⟩ := fp_nat (k := 9) h.1 h.2.1 (by decide)
  have := (fp_rowb_n hn).mp h
  exact ⟨n, hn, this.1, this.2, rfl⟩
section FpB
variable {L : Nat} {R : Nat → Nat → Option Nat} {I : Nat → Nat → Int32} {J : Nat → Nat → Int64}
theorem fp_valid {t : Nat} (ht : t < 8) : 0 ≤ (nI t).toInt ∧ (nI t).toInt < 8 := by rw [nI_toInt (by omega)]; omega
theorem c_isT (M : pm_M) {t : Nat} (ht : t < 8) : pm_C mX6_isTable [.int (nI t)] M = some (.int 1, M) := by rw [c_isTable, fp_b_t (fp_valid ht)]
theorem c_isT0 (M : pm_M) {t : Int32} (h : ¬ (0 ≤ t.toInt ∧ t.toInt < 8)) : pm_C mX6_isTable [.int t] M = some (.int 0, M) := by rw [c_isTable, fp_b_f h]
theorem r_isT (M : pm_M) {t : Nat} (ht : t < 8) : pm_C mX7_isTable [.int (nI t)] M = some (.int 1, M) := by rw [r_isTable, fp_b_t (fp_valid ht)]
theorem r_isT0 (M : pm_M) {t : Int32} (h : ¬ (0 ≤ t.toInt ∧ t.toInt < 8)) : pm_C mX7_isTable [.int t] M = some (.int 0, M) := by rw [r_isTable, fp_b_f h]
theorem r_isIn1 (M : pm_M) {x y z : Int64} (h : y.toInt ≤ x.toInt ∧ x.toInt ≤ z.toInt) : pm_C mX7_isIn [.long x, .long y, .long z] M = some (.int 1, M) := by rw [r_isIn, fp_b_t h]
theorem r_isIn0 (M : pm_M) {x y z : Int64} (h : ¬ (y.toInt ≤ x.toInt ∧ x.toInt ≤ z.toInt)) : pm_C mX7_isIn [.long x, .long y, .long z] M = some (.int 0, M) := by rw [r_isIn, fp_b_f h]
theorem c_isMissing {r : Nat} (hr : fp_tb r) {T : fp_T} (hT : fp_at I r T) (h0 : T.1 = 0) : pm_C mX5_isMissing [.ref r] (fp_m L R I J) = some (.int 1, fp_m L R I J) := by
  rw [e_X5_isMissing, gi_T hr, hT.1, h0]; rfl
theorem c_isMissing0 {r : Nat} (hr : fp_tb r) {T : fp_T} (hT : fp_at I r T) (h0 : T.1 ≠ 0) (h3 : T.1 ≤ 3) : pm_C mX5_isMissing [.ref r] (fp_m L R I J) = some (.int 0, fp_m L R I J) := by
  rw [e_X5_isMissing, gi_T hr, hT.1, Option.bind_some, if_neg (fp_ne h0 (by omega) (by decide))]
/-- the row of table t in the reference -/
def fp_mt (I : Nat → Nat → Int32) (t : Nat) (T : fp_T) : Prop := ∀ o, o < 84 → I 46 (84 * t + o) = fp_rw T o
theorem fp_mt_of {S : fp_S} (h : fp_MR S I) {t : Nat} (ht : t < 8) : fp_mt I t (S.1 t) := by
  intro o ho
  rw [h.1 _ (by omega), fp_flat_rw, show (84 * t + o) / 84 = t by omega, show (84 * t + o) % 84 = o by omega]
theorem r_q (hR : fp_RK R) {t : Nat} (ht : t < 8) {T : fp_T} (h : fp_mt I t T) : pm_C mX7_q [.ref 45, .int (nI t)] (fp_m L R I J) = some (.int (nI T.1), fp_m L R I J) := by
  rw [e_X7_q]
  simp only [gr_45_0 hR, Option.bind_some, nm_84]
  rw [ai_46 (by omega), show I 46 (84 * t) = nI T.1 from h 0 (by decide)]
  rfl
theorem r_a (hR : fp_RK R) {t : Nat} (ht : t < 8) {T : fp_T} (h : fp_mt I t T) : pm_C mX7_a [.ref 45, .int (nI t)] (fp_m L R I J) = some (.int (nI T.2.1), fp_m L R I J) := by
  rw [e_X7_a]
  simp only [gr_45_0 hR, Option.bind_some, nm_84, na_1]
  rw [ai_46 (by omega), h 1 (by decide)]
  rfl
theorem r_whole (hR : fp_RK R) {t : Nat} (ht : t < 8) {T : fp_T} (h : fp_mt I t T) : pm_C mX7_whole [.ref 45, .int (nI t)] (fp_m L R I J) = some (.int (nI T.2.2.1), fp_m L R I J) := by
  rw [e_X7_whole]
  simp only [gr_45_0 hR, Option.bind_some, nm_84, na_2]
  rw [ai_46 (by omega), h 2 (by decide)]
  rfl
theorem fp_rw3 (T : fp_T) (j : Nat) : fp_rw T (3 + j) = nI (T.2.2.2 j) := by
  unfold fp_rw
  rw [if_neg (by omega), if_neg (by omega), if_neg (by omega), Nat.add_sub_cancel_left]
theorem r_cell (hR : fp_RK R) {t j : Nat} (ht : t < 8) (hj : j < 81) {T : fp_T} (h : fp_mt I t T) : pm_aI (fp_m L R I J) 46 (nI (84 * t + 3 + j)) = some (nI (T.2.2.2 j)) := by
  rw [ai_46 (by omega), show 84 * t + 3 + j = 84 * t + (3 + j) by omega, h (3 + j) (by omega), fp_rw3]
theorem r_place (M : pm_M) (x y a b : Nat) : pm_C mX7_place [.int (nI x), .int (nI y), .int (nI a), .int (nI b)] M = some (.int (nI (27 * x + 9 * y + 3 * a + b)), M) := by
  rw [e_X7_place]
  simp only [nm_27, nm_9, nm_3, nI_add]
theorem c_spot (M : pm_M) (x y a b : Nat) : pm_C mX6_spot [.int (nI x), .int (nI y), .int (nI a), .int (nI b)] M = some (.int (nI (27 * x + 9 * y + 3 * a + b)), M) := by
  rw [e_X6_spot]
  simp only [nm_27, nm_9, nm_3, nI_add]
theorem r_get (hR : fp_RK R) {t x y a b : Nat} (ht : t < 8) (hx : x < 3) (hy : y < 3) (ha : a < 3) (hb : b < 3) {T : fp_T} (h : fp_mt I t T) : pm_C mX7_get [.ref 45, .int (nI t), .int (nI x), .int (nI y), .int (nI a), .int (nI b)] (fp_m L R I J) = some (.int (nI (T.2.2.2 (27 * x + 9 * y + 3 * a + b))), fp_m L R I J) := by
  rw [e_X7_get]
  simp only [gr_45_0 hR, Option.bind_some, r_place, fp_oI', nm_84, na_3, nI_add]
  rw [r_cell hR ht (by omega) h]
  rfl
theorem r_isMissing (hR : fp_RK R) {t : Nat} (ht : t < 8) {T : fp_T} (h : fp_mt I t T) (h0 : T.1 = 0) : pm_C mX7_isMissing [.ref 45, .int (nI t)] (fp_m L R I J) = some (.int 1, fp_m L R I J) := by
  rw [e_X7_isMissing, k_45, cond_true, r_q hR ht h, h0]; rfl
theorem r_isMissing0 (hR : fp_RK R) {t : Nat} (ht : t < 8) {T : fp_T} (h : fp_mt I t T) (h0 : T.1 ≠ 0) (h3 : T.1 ≤ 3) : pm_C mX7_isMissing [.ref 45, .int (nI t)] (fp_m L R I J) = some (.int 0, fp_m L R I J) := by
  rw [e_X7_isMissing, k_45, cond_true, r_q hR ht h, fp_oI', Option.bind_some, if_neg (fp_ne h0 (by omega) (by decide))]
theorem r_asked0 {t : Int32} (h : ¬ (0 ≤ t.toInt ∧ t.toInt < 8)) (M : pm_M) : pm_C mX7_asked [.ref 45, .int t] M = some (.long pm_BAD, M) := by
  rw [e_X7_asked, r_isT0 M h, fp_oI']; rfl
theorem r_asked1 (hR : fp_RK R) {t : Nat} (ht : t < 8) {T : fp_T} (h : fp_mt I t T) (h0 : T.1 = 0) : pm_C mX7_asked [.ref 45, .int (nI t)] (fp_m L R I J) = some (.long pm_NO, fp_m L R I J) := by
  rw [e_X7_asked, r_isT _ ht, fp_oI']
  simp only [Option.bind_some, fp_10, if_false, k_45, cond_true, r_isMissing hR ht h h0, fp_oI']
theorem r_asked2 (hR : fp_RK R) {t : Nat} (ht : t < 8) {T : fp_T} (h : fp_mt I t T) (h0 : T.1 ≠ 0) (h3 : T.1 ≤ 3) : pm_C mX7_asked [.ref 45, .int (nI t)] (fp_m L R I J) = some (.long 0, fp_m L R I J) := by
  rw [e_X7_asked, r_isT _ ht, fp_oI']
  simp only [Option.bind_some, fp_10, if_false, k_45, cond_true, r_isMissing0 hR ht h h0 h3, fp_oI', if_true]
theorem c_isRow (M : pm_M) {x : Int32} {k : Nat} (hk : k ≤ 3) (h : fp_rowb x k) : pm_C mX6_isRow [.int x, .int (nI k)] M = some (.int 1, M) := by
  obtain ⟨n, h1, h2, h3, rfl⟩ := fp_rowb_of h
  rw [e_X6_isRow, if_neg (nI_pos (by omega)), if_neg (fp_ge h1 (by decide)), nd_3 (by omega), if_neg (nI_ge h2 (by omega)), nq_3 (by omega), if_neg (nI_ge h3 (by omega))]
theorem c_isRow0 (M : pm_M) {x : Int32} {k : Nat} (hk : k ≤ 3) (h : ¬ fp_rowb x k) : pm_C mX6_isRow [.int x, .int (nI k)] M = some (.int 0, M) := by
  rw [e_X6_isRow]
  by_cases h1 : x < 0
  · rw [if_pos h1]
  · rw [if_neg h1]
    by_cases h2 : 9 ≤ x
    · rw [if_pos h2]
    · rw [if_neg h2]
      simp only [Int32.lt_iff_toInt_lt, Int32.le_iff_toInt_le] at h1 h2
      simp at h1 h2
      obtain ⟨n, hn, rfl⟩ := fp_nat (k := 9) h1 h2 (by decide)
      rw [fp_rowb_n hn] at h
      rw [nd_3 (by omega), nq_3 (by omega)]
      by_cases h3 : n / 3 < k
      · rw [if_neg (nI_ge h3 (by omega)), if_pos (nI_le (by omega) (by omega))]
      · rw [if_pos (nI_le (by omega) (by omega))]
theorem r_isPair (M : pm_M) {x : Int32} {k : Nat} (hk : k ≤ 3) (h : fp_rowb x k) : pm_C mX7_isPair [.int x, .int (nI k)] M = some (.int 1, M) := by
  obtain ⟨n, h1, h2, h3, rfl⟩ := fp_rowb_of h
  rw [e_X7_isPair, r_isIn1 _ (by rw [fp_w, nI_toInt (by omega)]; exact ⟨by show (0 : Int) ≤ _; omega, by show _ ≤ (8 : Int); omega⟩), fp_oI']
  simp only [Option.bind_some, fp_10, if_false]
  rw [nd_3 (by omega), if_neg (nI_ge h2 (by omega)), nq_3 (by omega), if_neg (nI_ge h3 (by omega))]
theorem r_isPair0 (M : pm_M) {x : Int32} {k : Nat} (hk : k ≤ 3) (h : ¬ fp_rowb x k) : pm_C mX7_isPair [.int x, .int (nI k)] M = some (.int 0, M) := by
  by_cases h1 : 0 ≤ x.toInt ∧ x.toInt < 9
  · obtain ⟨n, hn, rfl⟩ := fp_nat (k := 9) h1.1 h1.2 (by decide)
    rw [fp_rowb_n hn] at h
    rw [e_X7_isPair, r_isIn1 _ (by rw [fp_w, nI_toInt (by omega)]; exact ⟨by show (0 : Int) ≤ _; omega, by show _ ≤ (8 : Int); omega⟩), fp_oI']
    simp only [Option.bind_some, fp_10, if_false]
    rw [nd_3 (by omega), nq_3 (by omega)]
    by_cases h3 : n / 3 < k
    · rw [if_neg (nI_ge h3 (by omega)), if_pos (nI_le (by omega) (by omega))]
    · rw [if_pos (nI_le (by omega) (by omega))]
  · rw [e_X7_isPair, r_isIn0 _ (by rw [fp_w]; intro q; exact h1 ⟨q.1, by have := q.2; change _ ≤ (8 : Int) at this; omega⟩), fp_oI']
    rfl
theorem c_hasRows {r : Nat} (hr : fp_tb r) {T : fp_T} (hT : fp_at I r T) (hq : T.1 ≤ 3) (ha : T.2.1 ≤ 3) {x y : Int32} (h1 : fp_rowb x T.1) (h2 : fp_rowb y T.2.1) : pm_C mX5_hasRows [.ref r, .int x, .int y] (fp_m L R I J) = some (.int 1, fp_m L R I J) := by
  rw [e_X5_hasRows]
  simp only [gi_T hr, hT.1, hT.2.1, Option.bind_some, c_isRow _ hq h1, c_isRow _ ha h2, fp_oI', fp_10, if_false]
theorem c_hasRows0 {r : Nat} (hr : fp_tb r) {T : fp_T} (hT : fp_at I r T) (hq : T.1 ≤ 3) (ha : T.2.1 ≤ 3) {x y : Int32} (h : ¬ (fp_rowb x T.1 ∧ fp_rowb y T.2.1)) : pm_C mX5_hasRows [.ref r, .int x, .int y] (fp_m L R I J) = some (.int 0, fp_m L R I J) := by
  rw [e_X5_hasRows]
  by_cases h1 : fp_rowb x T.1
  · simp only [gi_T hr, hT.1, hT.2.1, Option.bind_some, c_isRow _ hq h1, c_isRow0 _ ha (fun q => h ⟨h1, q⟩), fp_oI', fp_10, if_false, if_true]
  · simp only [gi_T hr, hT.1, hT.2.1, Option.bind_some, c_isRow0 _ hq h1, fp_oI', if_true]
end FpB
