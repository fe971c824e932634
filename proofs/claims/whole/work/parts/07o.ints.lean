/-! whole numbers with a sign -/
abbrev zI (z : Int) : Int32 := Int32.ofInt z
abbrev zL (z : Int) : Int64 := Int64.ofInt z
theorem zL_n (n : Nat) : lN n = zL (n : Int) := by
  apply Int64.toBitVec_inj.mp
  rw [Int64.toBitVec_ofInt]
  rfl
theorem zI_n (n : Nat) : nI n = zI (n : Int) := by
  apply Int32.toBitVec_inj.mp
  rw [Int32.toBitVec_ofInt]
  rfl
theorem zL_add (a b : Int) : zL a + zL b = zL (a + b) := (Int64.ofInt_add a b).symm
theorem zL_sub (a b : Int) : zL a - zL b = zL (a - b) := (Int64.ofInt_sub a b).symm
theorem zL_mul (a b : Int) : zL a * zL b = zL (a * b) := (Int64.ofInt_mul a b).symm
theorem zL_neg (a : Int) : -zL a = zL (-a) := (Int64.ofInt_neg a).symm
theorem zI_add (a b : Int) : zI a + zI b = zI (a + b) := (Int32.ofInt_add a b).symm
theorem zI_sub (a b : Int) : zI a - zI b = zI (a - b) := (Int32.ofInt_sub a b).symm
theorem zI_mul (a b : Int) : zI a * zI b = zI (a * b) := (Int32.ofInt_mul a b).symm
theorem zI_neg (a : Int) : -zI a = zI (-a) := (Int32.ofInt_neg a).symm
theorem zL_t {z : Int} (h1 : -9223372036854775808 ≤ z) (h2 : z < 9223372036854775808) : (zL z).toInt = z := Int64.toInt_ofInt_of_le (by omega) (by omega)
theorem zI_t {z : Int} (h1 : -2147483648 ≤ z) (h2 : z < 2147483648) : (zI z).toInt = z := Int32.toInt_ofInt_of_le (by omega) (by omega)
theorem zL_lt {a b : Int} (a1 : -9223372036854775808 ≤ a) (a2 : a < 9223372036854775808) (b1 : -9223372036854775808 ≤ b) (b2 : b < 9223372036854775808) : zL a < zL b ↔ a < b := by
  rw [Int64.lt_iff_toInt_lt, zL_t a1 a2, zL_t b1 b2]
theorem zL_le {a b : Int} (a1 : -9223372036854775808 ≤ a) (a2 : a < 9223372036854775808) (b1 : -9223372036854775808 ≤ b) (b2 : b < 9223372036854775808) : zL a ≤ zL b ↔ a ≤ b := by
  rw [Int64.le_iff_toInt_le, zL_t a1 a2, zL_t b1 b2]
theorem zL_eq {a b : Int} (a1 : -9223372036854775808 ≤ a) (a2 : a < 9223372036854775808) (b1 : -9223372036854775808 ≤ b) (b2 : b < 9223372036854775808) : zL a = zL b ↔ a = b := by
  rw [← Int64.toInt_inj, zL_t a1 a2, zL_t b1 b2]
theorem zI_lt {a b : Int} (a1 : -2147483648 ≤ a) (a2 : a < 2147483648) (b1 : -2147483648 ≤ b) (b2 : b < 2147483648) : zI a < zI b ↔ a < b := by
  rw [Int32.lt_iff_toInt_lt, zI_t a1 a2, zI_t b1 b2]
theorem zI_le {a b : Int} (a1 : -2147483648 ≤ a) (a2 : a < 2147483648) (b1 : -2147483648 ≤ b) (b2 : b < 2147483648) : zI a ≤ zI b ↔ a ≤ b := by
  rw [Int32.le_iff_toInt_le, zI_t a1 a2, zI_t b1 b2]
theorem zI_eq {a b : Int} (a1 : -2147483648 ≤ a) (a2 : a < 2147483648) (b1 : -2147483648 ≤ b) (b2 : b < 2147483648) : zI a = zI b ↔ a = b := by
  rw [← Int32.toInt_inj, zI_t a1 a2, zI_t b1 b2]
theorem zI_l {z : Int} (h1 : -2147483648 ≤ z) (h2 : z < 2147483648) : (zI z).toInt64 = zL z := by
  apply Int64.toInt_inj.mp
  rw [fp_w, zI_t h1 h2, zL_t (by omega) (by omega)]
theorem zL_i (z : Int) : (zL z).toInt32 = zI z := by
  apply Int32.toBitVec_inj.mp
  rw [Int64.toBitVec_toInt32, Int64.toBitVec_ofInt, Int32.toBitVec_ofInt]
  apply BitVec.eq_of_toInt_eq
  rw [BitVec.signExtend_eq_setWidth_of_le _ (by decide)]
  simp [BitVec.toInt_setWidth, BitVec.toInt_ofInt]
  rw [show max (z % 18446744073709551616) 0 = z % 18446744073709551616 by omega]
  simp only [Int.bmod_def]
  split <;> split <;> omega
/-! the greatest common divisor -/
theorem fp_rem2 {x y : Nat} (hy : 0 < y) (h : x % y ≠ 0) : 2 * (y % (x % y)) < y := by
  have h1 := Nat.mod_lt x hy
  have h2 := Nat.mod_lt y (show 0 < x % y by omega)
  rcases Nat.lt_or_ge y (2 * (x % y)) with q | q
  · have e : y % (x % y) = (y - x % y) % (x % y) := Nat.mod_eq_sub_mod (Nat.le_of_lt h1)
    rw [e, Nat.mod_eq_of_lt (show y - x % y < x % y by omega)]
    omega
  · omega
theorem r_common_loop (M : pm_M) : ∀ (y x : Nat), x < 2 ^ 63 → y < 2 ^ 63 → pm_res mX7_common 17 [(4, .long (lN x)), (6, .long (lN y))] [] M = some (.long (lN (Nat.gcd x y)), M) := by
  intro y
  induction y using Nat.strongRecOn with
  | _ y ih =>
    intro x hx hy
    rw [e_X7_common_17]
    by_cases h0 : y = 0
    · subst h0
      rw [if_pos (show lg_cmp (lN 0) 0 = 0 from fp_cmp_eq.mpr rfl), Nat.gcd_zero_right]
    · have hz : ¬ lN y = 0 := fun q => h0 ((pk_lEQ (b := 0) hy (by decide)).mp q)
      rw [if_neg (fun q => hz (fp_cmp_eq.mp q)), show decide (lN y = 0) = false from decide_eq_false hz]
      show pm_res mX7_common 17 _ _ _ = _
      have hm := Nat.mod_lt x (show 0 < y by omega)
      rw [fp_remL hx (by omega) hy, ih (x % y) hm y hy (by omega), Nat.gcd_comm, ← Nat.gcd_rec, Nat.gcd_comm]
theorem c_common_loop (M : pm_M) : ∀ (k i x y : Nat), x < 2 ^ 63 → y < 2 ^ 63 → y < 2 ^ k → i + 2 * k ≤ 200 → pm_res mX6_commonDivisor 15 [(4, .long (lN x)), (6, .long (lN y)), (8, .int (nI i))] [] M = some (.long (pm_maxL 1 (lN (Nat.gcd x y))), M) := by
  have base : ∀ i x, pm_res mX6_commonDivisor 15 [(4, .long (lN x)), (6, .long (lN 0)), (8, .int (nI i))] [] M = some (.long (pm_maxL 1 (lN (Nat.gcd x 0))), M) := by
    intro i x
    rw [e_X6_commonDivisor_15, Nat.gcd_zero_right]
    split
    · rfl
    · rw [if_pos (show lg_cmp (lN 0) 0 = 0 from fp_cmp_eq.mpr rfl)]
  have step : ∀ i x y, x < 2 ^ 63 → y < 2 ^ 63 → 0 < y → i < 200 → pm_res mX6_commonDivisor 15 [(4, .long (lN x)), (6, .long (lN y)), (8, .int (nI i))] [] M = pm_res mX6_commonDivisor 15 [(4, .long (lN y)), (6, .long (lN (x % y))), (8, .int (nI (i + 1)))] [] M := by
    intro i x y hx hy h0 hi
    have hz : ¬ lN y = 0 := fun q => absurd ((pk_lEQ (b := 0) hy (by decide)).mp q) (by omega)
    rw [e_X6_commonDivisor_15, if_neg (fp_ge hi (by decide)), if_neg (fun q => hz (fp_cmp_eq.mp q)), show decide (lN y = 0) = false from decide_eq_false hz]
    show pm_res mX6_commonDivisor 15 _ _ _ = _
    rw [fp_remL hx h0 hy, nI_1]
  have gst : ∀ x y, Nat.gcd y (x % y) = Nat.gcd x y := fun x y => by rw [Nat.gcd_comm, ← Nat.gcd_rec, Nat.gcd_comm]
  intro k
  induction k with
  | zero =>
    intro i x y hx hy h1 h2
    have : y = 0 := by omega
    subst this
    exact base i x
  | succ k ih =>
    intro i x y hx hy h1 h2
    by_cases h0 : y = 0
    · subst h0; exact base i x
    have hm := Nat.mod_lt x (show 0 < y by omega)
    rw [step i x y hx hy (by omega) (by omega)]
    by_cases h3 : x % y = 0
    · rw [h3, base, ← gst x y, h3]
    · have h4 := fp_rem2 (show 0 < y by omega) h3
      have h5 := Nat.mod_lt y (show 0 < x % y by omega)
      rw [step (i + 1) y (x % y) hy (by omega) (by omega) (by omega), ih (i + 1 + 1) (x % y) (y % (x % y)) (by omega) (by omega) (by rw [Nat.pow_succ] at h1; omega) (by omega), gst, gst]
theorem fp_max1 {g : Nat} (h0 : 0 < g) (h : g < 2 ^ 63) : pm_maxL 1 (lN g) = lN g := by
  unfold pm_maxL
  by_cases e : g = 1
  · subst e; rfl
  · rw [if_neg]
    intro q
    have q := (pk_lLT (a := g) (b := 1) h (by decide)).mp q
    omega
theorem fp_gcd_lt {x y : Nat} (hx : x < 2 ^ 63) (hy : 0 < y) (hy2 : y < 2 ^ 63) : 0 < Nat.gcd x y ∧ Nat.gcd x y < 2 ^ 63 := by
  have := Nat.gcd_pos_of_pos_right x hy
  have := Nat.le_of_dvd hy (Nat.gcd_dvd_right x y)
  omega
theorem fp_abs {z : Int} (h1 : -9223372036854775808 < z) (h2 : z < 9223372036854775808) : pm_absL (zL z) = lN z.natAbs := by
  unfold pm_absL
  rw [zL_n]
  by_cases h : 0 < z
  · rw [if_pos (show (0 : Int64) < zL z from (zL_lt (a := 0) (by omega) (by omega) (by omega) (by omega)).mpr h), show ((z.natAbs : Nat) : Int) = z by omega]
  · rw [if_neg (show ¬ (0 : Int64) < zL z from fun q => h ((zL_lt (a := 0) (by omega) (by omega) (by omega) (by omega)).mp q)), zL_neg, show ((z.natAbs : Nat) : Int) = -z by omega]
theorem c_common (M : pm_M) {z : Int} {y : Nat} (h1 : -9223372036854775808 < z) (h2 : z < 9223372036854775808) (hy : y < 2 ^ 63) : pm_C mX6_commonDivisor [.long (zL z), .long (lN y)] M = some (.long (pm_maxL 1 (lN (Nat.gcd z.natAbs y))), M) := by
  have e : pm_absL (lN y) = lN y := by rw [zL_n, fp_abs (by omega) (by omega), Int.natAbs_natCast, zL_n]
  rw [e_X6_commonDivisor, fp_abs h1 h2, e]
  exact c_common_loop M 63 0 z.natAbs y (by omega) hy hy (by decide)
theorem r_common (M : pm_M) {z : Int} {y : Nat} (h1 : -9223372036854775808 < z) (h2 : z < 9223372036854775808) (hy : y < 2 ^ 63) : pm_C mX7_common [.long (zL z), .long (lN y)] M = some (.long (lN (Nat.gcd z.natAbs y)), M) := by
  rw [e_X7_common]
  by_cases h : 0 ≤ z
  · rw [if_pos (fp_cmp_ge.mpr (show (0 : Int64) ≤ zL z from (zL_le (a := 0) (by omega) (by omega) (by omega) (by omega)).mpr h)), show z = ((z.natAbs : Nat) : Int) by omega, ← zL_n, Int.natAbs_natCast]
    exact r_common_loop M y _ (by omega) hy
  · rw [if_neg (show ¬ 0 ≤ lg_cmp (zL z) 0 from fun q => h ((zL_le (a := 0) (by omega) (by omega) (by omega) (by omega)).mp (fp_cmp_ge.mp q))), zL_neg, show -z = ((z.natAbs : Nat) : Int) by omega, ← zL_n]
    exact r_common_loop M y _ (by omega) hy
def fp_frac (z : Int) (y : Nat) (p : Int32) : Int64 := if p = 0 then zL z / lN (Nat.gcd z.natAbs y) else lN y / lN (Nat.gcd z.natAbs y)
theorem c_fraction (M : pm_M) {z : Int} {y : Nat} (h1 : -9223372036854775808 < z) (h2 : z < 9223372036854775808) (h0 : 0 < y) (hy : y < 2 ^ 63) (p : Int32) : pm_C mX6_fraction [.long (zL z), .long (lN y), .int p] M = some (.long (fp_frac z y p), M) := by
  have hg := fp_gcd_lt (x := z.natAbs) (by omega) h0 hy
  have hz : ¬ lN (Nat.gcd z.natAbs y) = 0 := fun q => absurd ((pk_lEQ (b := 0) hg.2 (by decide)).mp q) (by omega)
  rw [e_X6_fraction, c_common M h1 h2 hy, fp_max1 hg.1 hg.2, fp_oL']
  simp only [Option.bind_some]
  rw [show decide (lN (Nat.gcd z.natAbs y) = 0) = false from decide_eq_false hz]
  unfold fp_frac
  split <;> rfl
theorem r_part (M : pm_M) {z : Int} {y : Nat} (h1 : -9223372036854775808 < z) (h2 : z < 9223372036854775808) (h0 : 0 < y) (hy : y < 2 ^ 63) (p : Int32) : pm_C mX7_part [.long (zL z), .long (lN y), .int p] M = some (.long (fp_frac z y p), M) := by
  have hg := fp_gcd_lt (x := z.natAbs) (by omega) h0 hy
  have hz : ¬ lN (Nat.gcd z.natAbs y) = 0 := fun q => absurd ((pk_lEQ (b := 0) hg.2 (by decide)).mp q) (by omega)
  rw [e_X7_part, r_common M h1 h2 hy, fp_oL']
  simp only [Option.bind_some]
  rw [show decide (lN (Nat.gcd z.natAbs y) = 0) = false from decide_eq_false hz]
  unfold fp_frac
  split <;> rfl
/-! powers and digits -/
theorem c_power (M : pm_M) (b e : Nat) (he : e < 2 ^ 31) : pm_C mX6_power [.int (nI b), .int (nI e)] M = some (.int (nI (b ^ e)), M) := by
  rw [e_X6_power]
  have key := fp_lp0 (fun i => pm_res mX6_power 4 [(0, .int (nI b)), (1, .int (nI e)), (2, .int (nI (b ^ i))), (3, .int (nI i))] [] M) e (fun i hi => by
    rw [e_X6_power_4, if_neg (nI_ge hi (by omega)), pk_mul, nI_1, Nat.pow_succ])
  refine (show pm_res mX6_power 4 [(0, .int (nI b)), (1, .int (nI e)), (2, .int 1), (3, .int 0)] [] M = _ from key).trans ?_
  rw [e_X6_power_4, if_pos (nI_le (Nat.le_refl _) he)]
theorem r_power (M : pm_M) (b e : Nat) (he : e < 2 ^ 31) : pm_C mX7_power [.int (nI b), .int (nI e)] M = some (.int (nI (b ^ e)), M) := by
  rw [e_X7_power]
  have key := fp_lp0 (fun i => pm_res mX7_power 4 [(0, .int (nI b)), (1, .int (nI e)), (2, .int (nI (b ^ i))), (3, .int (nI i))] [] M) e (fun i hi => by
    rw [e_X7_power_4, if_neg (nI_ge hi (by omega)), pk_mul, nI_1, Nat.pow_succ])
  refine (show pm_res mX7_power 4 [(0, .int (nI b)), (1, .int (nI e)), (2, .int 1), (3, .int 0)] [] M = _ from key).trans ?_
  rw [e_X7_power_4, if_pos (nI_le (Nat.le_refl _) he)]
def fp_dg (a n x : Nat) : Nat := n / a ^ x % a
theorem c_digit (M : pm_M) {n a k : Nat} (hn : n < 2 ^ 31) (h1 : 2 ≤ a) (h2 : a < 2 ^ 31) (hk : k < 2 ^ 31) : pm_C mX6_digit [.int (nI n), .int (nI a), .int (nI k)] M = some (.int (nI (fp_dg a n k)), M) := by
  have hz : decide (nI a = 0) = false := decide_eq_false (nI_ne0 (by omega) h2)
  rw [e_X6_digit, if_pos (fp_le h1 h2)]
  have key := fp_lp0 (fun i => pm_res mX6_digit 12 [(1, .int (nI a)), (2, .int (nI k)), (3, .int (nI (n / a ^ i))), (4, .int (nI i))] [] M) k (fun i hi => by
    have hd := Nat.div_le_self n (a ^ i)
    rw [e_X6_digit_12, if_neg (nI_ge hi (by omega)), hz]
    show pm_res mX6_digit 12 _ _ _ = _
    rw [pk_div (by omega) (by omega) h2, nI_1, Nat.div_div_eq_div_mul, Nat.pow_succ])
  rw [Nat.pow_zero, Nat.div_one] at key
  refine (show pm_res mX6_digit 12 [(1, .int (nI a)), (2, .int (nI k)), (3, .int (nI n)), (4, .int 0)] [] M = _ from key).trans ?_
  have hd := Nat.div_le_self n (a ^ k)
  rw [e_X6_digit_12, if_pos (nI_le (Nat.le_refl _) hk), hz]
  show some (Value.int (pm_rem _ _), M) = _
  rw [fp_rem (by omega) (by omega) h2]
  rfl
theorem r_digit (M : pm_M) {n a k : Nat} (hn : n < 2 ^ 31) (h1 : 2 ≤ a) (h2 : a < 2 ^ 31) (hk : k < 2 ^ 31) (hp : a ^ k < 2 ^ 31) : pm_C mX7_digit [.int (nI n), .int (nI a), .int (nI k)] M = some (.int (nI (fp_dg a n k)), M) := by
  have hpos : 0 < a ^ k := Nat.pow_pos (by omega)
  have hz : decide (nI a = 0) = false := decide_eq_false (nI_ne0 (by omega) h2)
  have hz2 : decide (nI (a ^ k) = 0) = false := decide_eq_false (nI_ne0 hpos hp)
  rw [e_X7_digit, r_power _ _ _ hk, fp_oI']
  simp only [Option.bind_some]
  rw [hz, hz2]
  show some (Value.int (pm_rem _ _), M) = _
  have hd := Nat.div_le_self n (a ^ k)
  rw [pk_div hn hpos hp, fp_rem (by omega) (by omega) h2]
  rfl
theorem fp_pw3 {a q : Nat} (ha : a ≤ 3) (hq : q ≤ 3) : a ^ q ≤ 27 := Nat.le_trans (Nat.pow_le_pow_left ha q) (Nat.le_trans (Nat.pow_le_pow_right (by decide) hq) (by decide))
theorem fp_pw6 {a q : Nat} (ha : a ≤ 3) (hq : q ≤ 3) : a ^ (2 * q) ≤ 729 := Nat.le_trans (Nat.pow_le_pow_left ha (2 * q)) (Nat.le_trans (Nat.pow_le_pow_right (by decide) (show 2 * q ≤ 6 by omega)) (by decide))
def fp_an (q a n p x : Nat) : Nat := if p = 0 then fp_dg a (n / a ^ q) x else fp_dg a (n % a ^ q) x
theorem r_answer (M : pm_M) {q a n p x : Nat} (hq : q ≤ 3) (h1 : 2 ≤ a) (h2 : a ≤ 3) (hn : n < 2 ^ 31) (hp : p < 2 ^ 31) (hx : x ≤ 3) : pm_C mX7_answer [.int (nI q), .int (nI a), .int (nI n), .int (nI p), .int (nI x)] M = some (.int (nI (fp_an q a n p x)), M) := by
  have hpw := fp_pw3 h2 hq
  have hpx := fp_pw3 h2 hx
  have hpos : 0 < a ^ q := Nat.pow_pos (by omega)
  have hz : decide (nI (a ^ q) = 0) = false := decide_eq_false (nI_ne0 hpos (by omega))
  have hd := Nat.div_le_self n (a ^ q)
  have hm := Nat.mod_le n (a ^ q)
  rw [e_X7_answer, r_power _ _ _ (by omega), fp_oI']
  simp only [Option.bind_some]
  rw [hz]
  unfold fp_an
  by_cases h : p = 0
  · rw [if_pos h, if_pos (fp_eqR h)]
    show (pm_oI _).bind _ = _
    rw [pk_div hn hpos (by omega), r_digit _ (by omega) h1 (by omega) (by omega) (by omega), fp_oI']
    rfl
  · rw [if_neg h, if_neg (fp_ne h hp (by decide))]
    show (pm_oI _).bind _ = _
    rw [fp_rem hn hpos (by omega), r_digit _ (by omega) h1 (by omega) (by omega) (by omega), fp_oI']
    rfl
theorem fp_dg_lt {a n x : Nat} (h : 2 ≤ a) : fp_dg a n x < a := Nat.mod_lt _ (by omega)
