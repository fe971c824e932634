/-! kinds: silent, laws of corners, the greatest of them -/
def fp_si (T : fp_T) : Prop := fp_pr T ∧ fp_ww T = none
def fp_two (T : fp_T) : Prop := T.1 = 2 ∧ T.2.1 = 2
def fp_ag (T : fp_T) (x y : Nat) : Int := (T.2.2.2 (27 * x + 9 * y) : Int) + T.2.2.2 (27 * x + 9 * y + 4) - T.2.2.2 (27 * x + 9 * y + 1) - T.2.2.2 (27 * x + 9 * y + 3)
def fp_cw0 (T : fp_T) (k : Nat) : Int := fp_ag T 0 0 + fp_ag T 0 1 + fp_ag T 1 0 + fp_ag T 1 1 - 2 * fp_ag T (k / 2 / 2) (k / 2 % 2)
def fp_cw (T : fp_T) (k : Nat) : Int := if k % 2 = 0 then fp_cw0 T k else -fp_cw0 T k
def fp_grl (T : fp_T) : Nat → Nat
  | 0 => 0
  | k + 1 => if fp_cw T (k + 1) ≤ fp_cw T (fp_grl T k) then fp_grl T k else k + 1
theorem fp_grl_le (T : fp_T) : ∀ k, fp_grl T k ≤ k
  | 0 => Nat.le_refl _
  | k + 1 => by
    have := fp_grl_le T k
    rw [fp_grl]
    split <;> omega
def fp_gv (T : fp_T) : Int := fp_cw T (fp_grl T 7)
theorem fp_NONE_t : pm_NONE.toInt = -9000000000000000005 := by decide
theorem fp_nn {v : Nat} (h : v < 2 ^ 31) : ¬ lN v = pm_NONE := by
  intro q
  have := congrArg Int64.toInt q
  rw [lN_toInt h, fp_NONE_t] at this
  omega
theorem fp_ww_lt {T : fp_T} (hok : fp_okT T) {v : Nat} (h : fp_ww T = some v) : v < 81 := by
  have hq := fp_okT_q hok
  obtain ⟨p, p1, p2⟩ := fp_f1_in h
  obtain ⟨o, o1, o2⟩ := fp_f1_in p2
  obtain ⟨a, a1, a2⟩ := fp_f1_in o2
  unfold fp_P3 at a2
  cases e : fp_f1 (fp_P4 T p o a) T.1 with
  | none => rw [e] at a2; cases a2
  | some k =>
    rw [e] at a2
    have := fp_P4_in e
    cases a2
    show 27 * p + 9 * o + 3 * a + k < 81
    omega
section FpKind
variable {L : Nat} {R : Nat → Nat → Option Nat} {I : Nat → Nat → Int32} {J : Nat → Nat → Int64}
theorem c_isSilent (hR : fp_RK R) {r : Nat} (hr : fp_tb r) {T : fp_T} (hT : fp_at I r T) (hok : fp_okT T) (h0 : T.1 ≠ 0) : (fp_si T → pm_C mX5_isSilent [.ref r] (fp_m L R I J) = some (.int 1, fp_m L R I J)) ∧ (¬ fp_si T → pm_C mX5_isSilent [.ref r] (fp_m L R I J) = some (.int 0, fp_m L R I J)) := by
  have c := c_isProper (L := L) (J := J) hR hr hT hok
  have d := c_firstThat (L := L) (J := J) hR hr hT hok h0
  constructor
  · intro h
    rw [h.2] at d
    rw [e_X5_isSilent]
    simp only [k_T hr, cond_true, c.1 h.1, fp_oI', Option.bind_some, fp_10, if_false, d]
    rfl
  · intro h
    by_cases hp : fp_pr T
    · cases e : fp_ww T with
      | none => exact absurd ⟨hp, e⟩ h
      | some v =>
        rw [e] at d
        have := fp_ww_lt hok e
        rw [e_X5_isSilent]
        simp only [k_T hr, cond_true, c.1 hp, fp_oI', Option.bind_some, fp_10, if_false, d]
        rw [if_pos (nI_pos' (by omega))]
    · rw [e_X5_isSilent]
      simp only [k_T hr, cond_true, c.2 hp, fp_oI', Option.bind_some, if_true]
theorem r_isSilent (hR : fp_RK R) {t : Nat} (ht : t < 8) {T : fp_T} (hT : fp_mt I t T) (hok : fp_okT T) (h0 : T.1 ≠ 0) : (fp_si T → pm_C mX7_isSilent [.ref 45, .int (nI t)] (fp_m L R I J) = some (.int 1, fp_m L R I J)) ∧ (¬ fp_si T → pm_C mX7_isSilent [.ref 45, .int (nI t)] (fp_m L R I J) = some (.int 0, fp_m L R I J)) := by
  have c := r_isProper (L := L) (J := J) hR ht hT hok
  have d := r_shows (L := L) (J := J) hR ht hT hok h0
  constructor
  · intro h
    rw [h.2] at d
    rw [e_X7_isSilent]
    simp only [k_45, cond_true, c.1 h.1, fp_oI', fp_oL', Option.bind_some, fp_10, if_false, d, fp_cmp_eq, if_true]
  · intro h
    by_cases hp : fp_pr T
    · cases e : fp_ww T with
      | none => exact absurd ⟨hp, e⟩ h
      | some v =>
        rw [e] at d
        have := fp_ww_lt hok e
        rw [e_X7_isSilent]
        simp only [k_45, cond_true, c.1 hp, fp_oI', fp_oL', Option.bind_some, fp_10, if_false, d, fp_cmp_eq]
        rw [if_neg (fp_nn (by omega))]
    · rw [e_X7_isSilent]
      simp only [k_45, cond_true, c.2 hp, fp_oI', Option.bind_some, if_true]
theorem c_isTwo {r : Nat} (hr : fp_tb r) {T : fp_T} (hT : fp_at I r T) (hok : fp_okT T) : (fp_two T → pm_C mX5_isTwoByTwo [.ref r] (fp_m L R I J) = some (.int 1, fp_m L R I J)) ∧ (¬ fp_two T → pm_C mX5_isTwoByTwo [.ref r] (fp_m L R I J) = some (.int 0, fp_m L R I J)) := by
  have hq := fp_okT_q hok
  rw [e_X5_isTwoByTwo]
  simp only [gi_T hr, hT.1, hT.2.1, Option.bind_some]
  constructor
  · intro h
    rw [if_pos (fp_eqR h.1), if_pos (fp_eqR h.2)]
  · intro h
    by_cases e : T.1 = 2
    · rw [if_pos (fp_eqR e), if_neg (fp_ne (fun q => h ⟨e, q⟩) (by omega) (by decide))]
    · rw [if_neg (fp_ne e (by omega) (by decide))]
theorem r_isTwo (hR : fp_RK R) {t : Nat} (ht : t < 8) {T : fp_T} (hT : fp_mt I t T) (hok : fp_okT T) : (fp_two T → pm_C mX7_isTwo [.ref 45, .int (nI t)] (fp_m L R I J) = some (.int 1, fp_m L R I J)) ∧ (¬ fp_two T → pm_C mX7_isTwo [.ref 45, .int (nI t)] (fp_m L R I J) = some (.int 0, fp_m L R I J)) := by
  have hq := fp_okT_q hok
  rw [e_X7_isTwo]
  simp only [k_45, cond_true, r_q hR ht hT, r_a hR ht hT, fp_oI', Option.bind_some]
  constructor
  · intro h
    rw [if_pos (fp_eqR h.1), if_pos (fp_eqR h.2)]
  · intro h
    by_cases e : T.1 = 2
    · rw [if_pos (fp_eqR e), if_neg (fp_ne (fun q => h ⟨e, q⟩) (by omega) (by decide))]
    · rw [if_neg (fp_ne e (by omega) (by decide))]
theorem c_agreement (hR : fp_RK R) {r : Nat} (hr : fp_tb r) {T : fp_T} (hT : fp_at I r T) (hok : fp_okT T) {x y : Nat} (hx : x < 3) (hy : y < 3) : pm_C mX5_agreement [.ref r, .int (nI x), .int (nI y)] (fp_m L R I J) = some (.long (zL (fp_ag T x y)), fp_m L R I J) := by
  have hq := fp_okT_q hok
  have hb : ∀ j, T.2.2.2 j < 2 ^ 31 := fun j => Nat.lt_of_le_of_lt (Nat.le_trans (hq.2.2.2 j) hq.2.2.1) (by decide)
  have s : ∀ a b, pm_C mX6_spot [.int (nI x), .int (nI y), .int (nI a), .int (nI b)] (fp_m L R I J) = _ := fun a b => c_spot (fp_m L R I J) x y a b
  have s0 := s 0 0; have s1 := s 1 1; have s2 := s 0 1; have s3 := s 1 0
  simp only [nI_0, show nI 1 = 1 from rfl] at s0 s1 s2 s3
  rw [e_X5_agreement]
  simp only [gr_T hR hr, Option.bind_some, s0, s1, s2, s3, fp_oI']
  rw [ai_T hr (by omega), hT.2.2.2 _ (by omega)]
  simp only [Option.bind_some]
  rw [ai_T hr (by omega), hT.2.2.2 _ (by omega)]
  simp only [Option.bind_some]
  rw [ai_T hr (by omega), hT.2.2.2 _ (by omega)]
  simp only [Option.bind_some]
  rw [ai_T hr (by omega), hT.2.2.2 _ (by omega)]
  simp only [Option.bind_some]
  rw [nI_l (hb _), nI_l (hb _), nI_l (hb _), nI_l (hb _)]
  simp only [zL_n, zL_add, zL_sub]
  rfl
theorem r_e (hR : fp_RK R) {t : Nat} (ht : t < 8) {T : fp_T} (hT : fp_mt I t T) (hok : fp_okT T) {x y : Nat} (hx : x < 3) (hy : y < 3) : pm_C mX7_e [.ref 45, .int (nI t), .int (nI x), .int (nI y)] (fp_m L R I J) = some (.long (zL (fp_ag T x y)), fp_m L R I J) := by
  have hq := fp_okT_q hok
  have hb : ∀ j, T.2.2.2 j < 2 ^ 31 := fun j => Nat.lt_of_le_of_lt (Nat.le_trans (hq.2.2.2 j) hq.2.2.1) (by decide)
  have s : ∀ a b, a < 3 → b < 3 → pm_C mX7_get [.ref 45, .int (nI t), .int (nI x), .int (nI y), .int (nI a), .int (nI b)] (fp_m L R I J) = _ := fun a b ha hb => r_get (L := L) (J := J) hR ht hx hy ha hb hT
  have s0 := s 0 0 (by decide) (by decide); have s1 := s 1 1 (by decide) (by decide); have s2 := s 0 1 (by decide) (by decide); have s3 := s 1 0 (by decide) (by decide)
  simp only [nI_0, show nI 1 = 1 from rfl] at s0 s1 s2 s3
  rw [e_X7_e]
  simp only [k_45, cond_true, Option.bind_some, s0, s1, s2, s3, fp_oI']
  rw [nI_l (hb _), nI_l (hb _), nI_l (hb _), nI_l (hb _)]
  simp only [zL_n, zL_add, zL_sub]
  rfl
theorem fp_ag_b {T : fp_T} (hok : fp_okT T) (x y : Nat) : -2000000 ≤ fp_ag T x y ∧ fp_ag T x y ≤ 2000000 := by
  have hq := fp_okT_q hok
  have hb : ∀ j, T.2.2.2 j ≤ 1000000 := fun j => Nat.le_trans (hq.2.2.2 j) hq.2.2.1
  have h1 := hb (27 * x + 9 * y)
  have h2 := hb (27 * x + 9 * y + 4)
  have h3 := hb (27 * x + 9 * y + 1)
  have h4 := hb (27 * x + 9 * y + 3)
  unfold fp_ag
  omega
theorem fp_cw_b {T : fp_T} (hok : fp_okT T) (k : Nat) : -12000000 ≤ fp_cw T k ∧ fp_cw T k ≤ 12000000 := by
  have h1 := fp_ag_b hok 0 0
  have h2 := fp_ag_b hok 0 1
  have h3 := fp_ag_b hok 1 0
  have h4 := fp_ag_b hok 1 1
  have h5 := fp_ag_b hok (k / 2 / 2) (k / 2 % 2)
  unfold fp_cw fp_cw0
  split <;> omega
theorem c_cornerLaw (hR : fp_RK R) {r : Nat} (hr : fp_tb r) {T : fp_T} (hT : fp_at I r T) (hok : fp_okT T) {k : Nat} (hk : k < 8) : pm_C mX5_cornerLaw [.ref r, .int (nI k)] (fp_m L R I J) = some (.long (zL (fp_cw T k)), fp_m L R I J) := by
  have s : ∀ x y, x < 3 → y < 3 → pm_C mX5_agreement [.ref r, .int (nI x), .int (nI y)] (fp_m L R I J) = _ := fun x y hx hy => c_agreement (L := L) (J := J) hR hr hT hok hx hy
  have s0 := s 0 0 (by decide) (by decide); have s1 := s 1 1 (by decide) (by decide); have s2 := s 0 1 (by decide) (by decide); have s3 := s 1 0 (by decide) (by decide); have s4 := s (k / 2 / 2) (k / 2 % 2) (by omega) (by omega)
  simp only [nI_0, show nI 1 = 1 from rfl] at s0 s1 s2 s3
  rw [e_X5_cornerLaw, nd_2 (by omega), nd_2 (by omega), nq_2 (by omega), nq_2 (by omega)]
  simp only [k_T hr, cond_true, s0, s1, s2, s3, s4, fp_oL', Option.bind_some]
  rw [show (2 : Int64) = zL 2 from rfl]
  simp only [zL_add, zL_mul, zL_sub, zL_neg]
  unfold fp_cw
  by_cases e : k % 2 = 0
  · rw [if_pos (fp_eqR e), if_pos e]; rfl
  · rw [if_neg (fp_ne e (by omega) (by decide)), if_neg e]; rfl
theorem r_lawOf (hR : fp_RK R) {t : Nat} (ht : t < 8) {T : fp_T} (hT : fp_mt I t T) (hok : fp_okT T) {k : Nat} (hk : k < 8) : pm_C mX7_lawOf [.ref 45, .int (nI t), .int (nI k)] (fp_m L R I J) = some (.long (zL (fp_cw T k)), fp_m L R I J) := by
  have s : ∀ x y, x < 3 → y < 3 → pm_C mX7_e [.ref 45, .int (nI t), .int (nI x), .int (nI y)] (fp_m L R I J) = _ := fun x y hx hy => r_e (L := L) (J := J) hR ht hT hok hx hy
  have s0 := s 0 0 (by decide) (by decide); have s1 := s 1 1 (by decide) (by decide); have s2 := s 0 1 (by decide) (by decide); have s3 := s 1 0 (by decide) (by decide); have s4 := s (k / 2 / 2) (k / 2 % 2) (by omega) (by omega)
  simp only [nI_0, show nI 1 = 1 from rfl] at s0 s1 s2 s3
  rw [e_X7_lawOf, nd_2 (by omega), nd_2 (by omega), nq_2 (by omega), nq_2 (by omega)]
  simp only [k_45, cond_true, s0, s1, s2, s3, s4, fp_oL', Option.bind_some]
  rw [show (2 : Int64) = zL 2 from rfl]
  simp only [zL_add, zL_mul, zL_sub, zL_neg]
  unfold fp_cw
  by_cases e : k % 2 = 0
  · rw [if_neg (fp_ne (by omega) (by omega) (by decide)), if_pos e]; rfl
  · rw [if_pos (fp_eqR (by omega)), if_neg e]; rfl
theorem c_greatest (hR : fp_RK R) {r : Nat} (hr : fp_tb r) {T : fp_T} (hT : fp_at I r T) (hok : fp_okT T) : pm_C mX5_greatestCornerLaw [.ref r] (fp_m L R I J) = some (.int (nI (fp_grl T 7)), fp_m L R I J) := by
  rw [e_X5_greatestCornerLaw]
  have key := fp_lp (fun i => pm_res mX5_greatestCornerLaw 4 [(0, .ref r), (1, .int (nI (fp_grl T (i - 1)))), (2, .int (nI i))] [] (fp_m L R I J)) (a := 1) (n := 8) (by decide) (fun i h1 h2 => by
    have hg := fp_grl_le T (i - 1)
    have b1 := fp_cw_b hok i
    have b2 := fp_cw_b hok (fp_grl T (i - 1))
    rw [e_X5_greatestCornerLaw_4, if_neg (fp_ge h2 (by decide))]
    simp only [k_T hr, cond_true, c_cornerLaw hR hr hT hok h2, c_cornerLaw hR hr hT hok (show fp_grl T (i - 1) < 8 by omega), fp_oL', Option.bind_some, fp_cmp_le, nI_1, zL_le (show -9223372036854775808 ≤ fp_cw T i by omega) (by omega) (show -9223372036854775808 ≤ fp_cw T (fp_grl T (i - 1)) by omega) (by omega)]
    obtain ⟨j, rfl⟩ : ∃ j, i = j + 1 := ⟨i - 1, by omega⟩
    simp only [Nat.add_sub_cancel] at *
    rw [fp_grl]
    split <;> rfl)
  refine (show pm_res mX5_greatestCornerLaw 4 [(0, .ref r), (1, .int 0), (2, .int 1)] [] (fp_m L R I J) = _ from key).trans ?_
  rw [e_X5_greatestCornerLaw_4, if_pos (fp_le (Nat.le_refl _) (by decide))]
theorem r_greatest (hR : fp_RK R) {t : Nat} (ht : t < 8) {T : fp_T} (hT : fp_mt I t T) (hok : fp_okT T) : pm_C mX7_greatestLaw [.ref 45, .int (nI t)] (fp_m L R I J) = some (.int (nI (fp_grl T 7)), fp_m L R I J) := by
  rw [e_X7_greatestLaw]
  have key := fp_lp (fun i => pm_res mX7_greatestLaw 4 [(0, .ref 45), (1, .int (nI t)), (2, .int (nI (fp_grl T (i - 1)))), (3, .int (nI i))] [] (fp_m L R I J)) (a := 1) (n := 8) (by decide) (fun i h1 h2 => by
    have hg := fp_grl_le T (i - 1)
    have b1 := fp_cw_b hok i
    have b2 := fp_cw_b hok (fp_grl T (i - 1))
    rw [e_X7_greatestLaw_4, if_neg (fp_ge h2 (by decide))]
    simp only [k_45, cond_true, r_lawOf hR ht hT hok h2, r_lawOf hR ht hT hok (show fp_grl T (i - 1) < 8 by omega), fp_oL', Option.bind_some, fp_cmp_le, nI_1, zL_le (show -9223372036854775808 ≤ fp_cw T i by omega) (by omega) (show -9223372036854775808 ≤ fp_cw T (fp_grl T (i - 1)) by omega) (by omega)]
    obtain ⟨j, rfl⟩ : ∃ j, i = j + 1 := ⟨i - 1, by omega⟩
    simp only [Nat.add_sub_cancel] at *
    rw [fp_grl]
    split <;> rfl)
  refine (show pm_res mX7_greatestLaw 4 [(0, .ref 45), (1, .int (nI t)), (2, .int 0), (3, .int 1)] [] (fp_m L R I J) = _ from key).trans ?_
  rw [e_X7_greatestLaw_4, if_pos (fp_le (Nat.le_refl _) (by decide))]
theorem fp_gcl (T : fp_T) : fp_grl T 7 < 8 := by have := fp_grl_le T 7; omega
theorem fp_w2 {w : Nat} (h : w < 2 ^ 31) : (2 : Int64) * (nI w).toInt64 = zL (2 * w) := by rw [nI_l h, zL_n, show (2 : Int64) = zL 2 from rfl, zL_mul]
theorem r_keepsAll (hR : fp_RK R) {t : Nat} (ht : t < 8) {T : fp_T} (hT : fp_mt I t T) (hok : fp_okT T) : (fp_gv T ≤ 2 * T.2.2.1 → pm_C mX7_keepsAll [.ref 45, .int (nI t)] (fp_m L R I J) = some (.int 1, fp_m L R I J)) ∧ (¬ fp_gv T ≤ 2 * T.2.2.1 → pm_C mX7_keepsAll [.ref 45, .int (nI t)] (fp_m L R I J) = some (.int 0, fp_m L R I J)) := by
  have hq := fp_okT_q hok
  have b := fp_cw_b hok (fp_grl T 7)
  rw [e_X7_keepsAll]
  simp only [k_45, cond_true, r_greatest hR ht hT hok, fp_oI', fp_oL', Option.bind_some, r_lawOf hR ht hT hok (fp_gcl T), r_whole hR ht hT, fp_w2 (show T.2.2.1 < 2 ^ 31 by omega), fp_cmp_gt, zL_lt (show -9223372036854775808 ≤ 2 * (T.2.2.1 : Int) by omega) (by omega) (show -9223372036854775808 ≤ fp_cw T (fp_grl T 7) by omega) (by omega)]
  unfold fp_gv
  constructor
  · intro h; rw [if_neg (by omega)]
  · intro h; rw [if_pos (by omega)]
theorem fp_sr_cell {T : fp_T} (hok : fp_okT T) (h0 : T.1 ≠ 0) {n : Nat} (hn : fp_sr T n) {x y j : Nat} (hx : x < T.1) (hy : y < T.1) (hj : j < 9) : T.2.2.2 (27 * x + 9 * y + j) = if j = 3 * fp_dg T.2.1 (n / T.2.1 ^ T.1) x + fp_dg T.2.1 (n % T.2.1 ^ T.1) y then T.2.2.1 else 0 := by
  have h := fp_okT_1 hok h0
  obtain ⟨n1, n2, n3⟩ := hn
  have d1 := fp_dg_lt (n := n / T.2.1 ^ T.1) (x := x) h.2.2.1
  have d2 := fp_dg_lt (n := n % T.2.1 ^ T.1) (x := y) h.2.2.1
  have c := n3 x hx y hy
  rw [Nat.add_assoc] at c
  by_cases e : j = 3 * fp_dg T.2.1 (n / T.2.1 ^ T.1) x + fp_dg T.2.1 (n % T.2.1 ^ T.1) y
  · rw [if_pos e, e]; exact c
  · rw [if_neg e]
    have := fp_sm_two (f := fun k => T.2.2.2 (27 * x + 9 * y + k)) hj (show 3 * fp_dg T.2.1 (n / T.2.1 ^ T.1) x + fp_dg T.2.1 (n % T.2.1 ^ T.1) y < 9 by omega) e
    have e2 : fp_sm (fun k => T.2.2.2 (27 * x + 9 * y + k)) 9 = T.2.2.1 := n1 x hx y hy
    omega
/-- SURE tables are silent -/
theorem fp_sr_si {T : fp_T} (hok : fp_okT T) (h0 : T.1 ≠ 0) {n : Nat} (hn : fp_sr T n) : fp_si T := by
  have h := fp_okT_1 hok h0
  have hc := fun {x y j : Nat} => fp_sr_cell hok h0 hn (x := x) (y := y) (j := j)
  refine ⟨hn.1, fp_f1_none fun p hp => fp_f1_none fun o ho => fp_f1_none fun a ha => ?_⟩
  unfold fp_P3
  rw [fp_f1_none]
  · rfl
  · intro k hk
    unfold fp_P4
    rw [if_neg]
    rintro ⟨-, q⟩
    apply q
    have m : ∀ k, k < T.1 → fp_mg T p o k a = if a = (if p = 0 then fp_dg T.2.1 (n / T.2.1 ^ T.1) o else fp_dg T.2.1 (n % T.2.1 ^ T.1) o) then T.2.2.1 else 0 := by
      intro k hk
      unfold fp_mg fp_sp
      rcases (by omega : p = 0 ∨ p = 1) with rfl | rfl
      · have d1 := fp_dg_lt (n := n / T.2.1 ^ T.1) (x := o) h.2.2.1
        have d2 := fp_dg_lt (n := n % T.2.1 ^ T.1) (x := k) h.2.2.1
        simp only [fp_sm, if_true]
        rw [show 27 * o + 9 * k + 3 * a + 0 = 27 * o + 9 * k + (3 * a) by omega, show 27 * o + 9 * k + 3 * a + 1 = 27 * o + 9 * k + (3 * a + 1) by omega, show 27 * o + 9 * k + 3 * a + 2 = 27 * o + 9 * k + (3 * a + 2) by omega, hc ho hk (show 3 * a < 9 by omega), hc ho hk (show 3 * a + 1 < 9 by omega), hc ho hk (show 3 * a + 2 < 9 by omega)]
        generalize fp_dg T.2.1 (n / T.2.1 ^ T.1) o = u at *
        generalize fp_dg T.2.1 (n % T.2.1 ^ T.1) k = v at *
        by_cases e : a = u
        · subst e
          rcases (by omega : v = 0 ∨ v = 1 ∨ v = 2) with rfl | rfl | rfl <;> simp
        · rw [if_neg (by omega), if_neg (by omega), if_neg (by omega), if_neg e]
      · have d1 := fp_dg_lt (n := n / T.2.1 ^ T.1) (x := k) h.2.2.1
        have d2 := fp_dg_lt (n := n % T.2.1 ^ T.1) (x := o) h.2.2.1
        simp only [fp_sm, if_neg (show ¬ (1 = 0) by decide)]
        rw [show 27 * k + 9 * o + 3 * 0 + a = 27 * k + 9 * o + a by omega, show 27 * k + 9 * o + 3 * 1 + a = 27 * k + 9 * o + (3 + a) by omega, show 27 * k + 9 * o + 3 * 2 + a = 27 * k + 9 * o + (6 + a) by omega, hc hk ho (show a < 9 by omega), hc hk ho (show 3 + a < 9 by omega), hc hk ho (show 6 + a < 9 by omega)]
        generalize fp_dg T.2.1 (n / T.2.1 ^ T.1) k = u at *
        generalize fp_dg T.2.1 (n % T.2.1 ^ T.1) o = v at *
        by_cases e : a = v
        · subst e
          rcases (by omega : u = 0 ∨ u = 1 ∨ u = 2) with rfl | rfl | rfl <;> simp <;> omega
        · rw [if_neg (by omega), if_neg (by omega), if_neg (by omega), if_neg e]
    rw [m k hk, m 0 (by omega)]
end FpKind
