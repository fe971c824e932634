/-! blend -/
def fp_bl (T U : fp_T) (v w j : Nat) : Nat := if j < 81 then v * T.2.2.2 j * U.2.2.1 + w * U.2.2.2 j * T.2.2.1 else 0
theorem fp_bl_le {T U : fp_T} (hT : fp_okT T) (hU : fp_okT U) (v w j : Nat) : fp_bl T U v w j ≤ (v + w) * T.2.2.1 * U.2.2.1 := by
  have h1 := (fp_okT_q hT).2.2.2 j
  have h2 := (fp_okT_q hU).2.2.2 j
  unfold fp_bl
  by_cases h : j < 81
  · rw [if_pos h, Nat.add_mul, Nat.add_mul]
    have e1 : v * T.2.2.2 j * U.2.2.1 ≤ v * T.2.2.1 * U.2.2.1 := Nat.mul_le_mul_right _ (Nat.mul_le_mul_left _ h1)
    have e2 : w * U.2.2.2 j * T.2.2.1 ≤ w * U.2.2.1 * T.2.2.1 := Nat.mul_le_mul_right _ (Nat.mul_le_mul_left _ h2)
    have e3 : w * U.2.2.1 * T.2.2.1 = w * T.2.2.1 * U.2.2.1 := by rw [Nat.mul_assoc, Nat.mul_comm U.2.2.1, ← Nat.mul_assoc]
    omega
  · rw [if_neg h]; exact Nat.zero_le _
theorem fp_bl_0 {T U : fp_T} (hT : fp_okT T) (h0 : T.1 ≠ 0) (hU : fp_okT U) (h0' : U.1 ≠ 0) (e1 : T.1 = U.1) (e2 : T.2.1 = U.2.1) (v w : Nat) {j : Nat} (h : ¬ fp_in T.1 T.2.1 j) : fp_bl T U v w j = 0 := by
  have q8 := (fp_okT_1 hT h0).2.2.2.2.2.2.2
  have u8 := (fp_okT_1 hU h0').2.2.2.2.2.2.2
  unfold fp_bl
  rw [q8 j h, u8 j (by rw [← e1, ← e2]; exact h)]
  simp
section FpBlend
variable {L : Nat} {R : Nat → Nat → Option Nat} {I : Nat → Nat → Int32} {J : Nat → Nat → Int64}
theorem c_hasShape {r1 r2 : Nat} (t1 : fp_tb r1) (t2 : fp_tb r2) {T U : fp_T} (hT : fp_at I r1 T) (hU : fp_at I r2 U) (oT : fp_okT T) (oU : fp_okT U) : pm_C mX5_hasShapeOf [.ref r1, .ref r2] (fp_m L R I J) = some (.int (fp_b (T.1 = U.1 ∧ T.2.1 = U.2.1)), fp_m L R I J) := by
  have bT := fp_okT_q oT
  have bU := fp_okT_q oU
  rw [e_X5_hasShapeOf]
  simp only [gi_T t1, gi_T t2, hT.1, hT.2.1, hU.1, hU.2.1, Option.bind_some]
  by_cases e1 : T.1 = U.1
  · rw [if_pos (by rw [e1])]
    by_cases e2 : T.2.1 = U.2.1
    · rw [if_pos (by rw [e2]), fp_b_t ⟨e1, e2⟩]
    · rw [if_neg (by rw [nI_eq (by omega) (by omega)]; exact e2), fp_b_f (fun g => e2 g.2)]
  · rw [if_neg (by rw [nI_eq (by omega) (by omega)]; exact e1), fp_b_f (fun g => e1 g.1)]
theorem c_startBlended (hR : fp_RK R) {r1 r2 : Nat} (t1 : fp_tb r1) (t2 : fp_tb r2) {T U : fp_T} (hT : fp_at I r1 T) (hU : fp_at I r2 U) (oT : fp_okT T) (oU : fp_okT U) {v w : Nat} (hv : v ≤ 1001) (hw : w ≤ 1001) : ∃ I' J', pm_C mX1_startBlended [.ref 40, .ref r1, .ref r2, .int (nI v), .int (nI w)] (fp_m L R I J) = some (.null, fp_m L R I' J') ∧ fp_dr I' J' T.1 T.2.1 ((v + w) * T.2.2.1 * U.2.2.1) (fp_bl T U v w) ∧ ∀ i, i ≠ 40 → I' i = I i := by
  have bT := fp_okT_q oT
  have bU := fp_okT_q oU
  have cT : ∀ j, T.2.2.2 j < 2 ^ 31 := fun j => Nat.lt_of_le_of_lt (Nat.le_trans (bT.2.2.2 j) bT.2.2.1) (by decide)
  have cU : ∀ j, U.2.2.2 j < 2 ^ 31 := fun j => Nat.lt_of_le_of_lt (Nat.le_trans (bU.2.2.2 j) bU.2.2.1) (by decide)
  have p1 := fp_tb_pos t1
  have p2 := fp_tb_pos t2
  obtain ⟨I1, J1, c1, c2, c3⟩ := c_start (L := L) (I := I) (J := J) hR T.1 T.2.1
  have hT1 : fp_at I1 r1 T := fp_at_cong hT (c3 _ (by omega)) (c3 _ (by omega))
  have hU1 : fp_at I1 r2 U := fp_at_cong hU (c3 _ (by omega)) (c3 _ (by omega))
  have g0 : fp_dr I1 (va_up J1 40 (va_up (J1 40) 2 (lN ((v + w) * T.2.2.1 * U.2.2.1)))) T.1 T.2.1 ((v + w) * T.2.2.1 * U.2.2.1) (fun _ => 0) := by
    refine ⟨c2.1, c2.2.1, ?_, fun j hj => ?_⟩
    · rw [pm_up_same, pm_up_same]
    · rw [pm_up_other _ _ (by decide)]; exact c2.2.2.2 j hj
  obtain ⟨J2, q2, e2⟩ := fp_li0 (fun i (J' : Nat → Nat → Int64) => pm_res mX1_startBlended 36 [(0, .ref 40), (1, .ref r1), (2, .ref r2), (3, .int (nI v)), (4, .int (nI w)), (5, .int (nI i))] [] (fp_m L R I1 J')) (fun i J' => fp_dr I1 J' T.1 T.2.1 ((v + w) * T.2.2.1 * U.2.2.1) (fun j => if j < i then fp_bl T U v w j else 0)) 81 (fun i J' hi p => by
    refine ⟨_, fp_dr_cg (fp_dr_up (j := i) (v := fp_bl T U v w i) p) (fun j hj => congrFun (fp_fs (fp_bl T U v w) (fun _ => 0) i) j), ?_⟩
    rw [e_X1_startBlended_36, if_neg (fp_ge hi (by decide))]
    simp only [gr_40_3 hR, gr_T hR t1, gr_T hR t2, Option.bind_some, gi_T t1, gi_T t2, hT1.2.2.1, hU1.2.2.1]
    rw [ai_T t1 hi, Option.bind_some, ai_T t2 hi, Option.bind_some, hT1.2.2.2 i hi, hU1.2.2.2 i hi, nI_l (show v < 2 ^ 31 by omega), nI_l (show w < 2 ^ 31 by omega), nI_l (cT i), nI_l (cU i), nI_l (show T.2.2.1 < 2 ^ 31 by omega), nI_l (show U.2.2.1 < 2 ^ 31 by omega)]
    simp only [lN_mul, lN_add]
    rw [si_41 hi, Option.bind_some, nI_1]
    unfold fp_bl
    rw [if_pos hi]) (s := va_up J1 40 (va_up (J1 40) 2 (lN ((v + w) * T.2.2.1 * U.2.2.1)))) (fp_dr_cg g0 (fun j _ => (if_neg (Nat.not_lt_zero j)).symm))
  refine ⟨I1, J2, ?_, fp_dr_cg q2 (fun j hj => if_pos hj), c3⟩
  rw [e_X1_startBlended]
  simp only [gi_T t1, gi_T t2, hT.1, hT.2.1, Option.bind_some, k_40, cond_true, c1, fp_oV', hT1.2.2.1, hU1.2.2.1, pl_40, nI_add]
  rw [nI_l (by omega), nI_l (by omega), nI_l (by omega), lN_mul, lN_mul]
  refine (show pm_res mX1_startBlended 36 [(0, .ref 40), (1, .ref r1), (2, .ref r2), (3, .int (nI v)), (4, .int (nI w)), (5, .int 0)] [] (fp_m L R I1 (va_up J1 40 (va_up (J1 40) 2 (lN ((v + w) * T.2.2.1 * U.2.2.1))))) = _ from e2).trans ?_
  rw [e_X1_startBlended_36, if_pos (fp_le (Nat.le_refl _) (by decide))]
theorem r_blendLoop (hR : fp_RK R) {S : fp_S} (hok : fp_ok S) (hM : fp_MR S I) {t s : Nat} (ht : t < 8) (hs : s < 8) (x3 : Int32) (v w : Nat) : ∃ J', pm_res mX7_blend 98 [(0, .ref 45), (1, .int (nI t)), (2, .int (nI s)), (3, .int x3), (5, .long (lN v)), (7, .long (lN w)), (9, .int 0)] [] (fp_m L R I J) = pm_res mX7_blend 98 [(0, .ref 45), (1, .int (nI t)), (2, .int (nI s)), (3, .int x3), (5, .long (lN v)), (7, .long (lN w)), (9, .int (nI 81))] [] (fp_m L R I J') ∧ ∀ j, j < 81 → J' 50 j = lN (fp_bl (S.1 t) (S.1 s) v w j) := by
  have bT := fp_okT_q (hok.1 t ht)
  have bU := fp_okT_q (hok.1 s hs)
  have cT : ∀ j, (S.1 t).2.2.2 j < 2 ^ 31 := fun j => Nat.lt_of_le_of_lt (Nat.le_trans (bT.2.2.2 j) bT.2.2.1) (by decide)
  have cU : ∀ j, (S.1 s).2.2.2 j < 2 ^ 31 := fun j => Nat.lt_of_le_of_lt (Nat.le_trans (bU.2.2.2 j) bU.2.2.1) (by decide)
  obtain ⟨J2, p2, e2⟩ := fp_li0 (fun k (J' : Nat → Nat → Int64) => pm_res mX7_blend 98 [(0, .ref 45), (1, .int (nI t)), (2, .int (nI s)), (3, .int x3), (5, .long (lN v)), (7, .long (lN w)), (9, .int (nI k))] [] (fp_m L R I J')) (fun k J' => ∀ j, j < k → J' 50 j = lN (fp_bl (S.1 t) (S.1 s) v w j)) 81 (fun k J' hk p => by
    refine ⟨va_up J' 50 (va_up (J' 50) k (lN (fp_bl (S.1 t) (S.1 s) v w k))), fun j hj => ?_, ?_⟩
    · rw [pm_up_same]
      by_cases e : j = k
      · rw [e, pm_up_same]
      · rw [pm_up_other _ _ e]; exact p j (by omega)
    · rw [e_X7_blend_98, if_neg (fp_ge hk (by decide))]
      simp only [gr_45_7 hR, gr_45_0 hR, Option.bind_some, nm_84, na_3, nI_add]
      rw [r_cell hR ht hk (fp_mt_of hM ht), Option.bind_some]
      simp only [k_45, cond_true, r_whole hR ht (fp_mt_of hM ht), r_whole hR hs (fp_mt_of hM hs), fp_oI', Option.bind_some, gr_45_0 hR]
      rw [r_cell hR hs hk (fp_mt_of hM hs), Option.bind_some, nI_l (cT k), nI_l (cU k), nI_l (show (S.1 t).2.2.1 < 2 ^ 31 by omega), nI_l (show (S.1 s).2.2.1 < 2 ^ 31 by omega)]
      simp only [lN_mul, lN_add]
      rw [si_50 hk, Option.bind_some, nI_1]
      unfold fp_bl
      rw [if_pos hk]) (s := J) (fun j hj => absurd hj (Nat.not_lt_zero j))
  exact ⟨J2, e2, p2⟩
theorem b_blend (hR : fp_RK R) (t s r x : Int32) : fp_Both L R mX6_blend mX7_blend [.int t, .int s, .int r, .int x] := by
  intro S hok
  by_cases h1 : 0 ≤ t.toInt ∧ t.toInt < 8
  case neg =>
    refine ⟨S, pm_BAD, hok, fp_Cs.same fun I J hC => ?_, fp_Ms.same fun I J hM => ?_⟩
    · rw [e_X6_blend, c_isT0 _ h1, fp_oI']; rfl
    · rw [e_X7_blend, r_isT0 _ h1, fp_oI']; rfl
  obtain ⟨t', ht, rfl⟩ := fp_nat (k := 8) h1.1 h1.2 (by decide)
  by_cases h2 : 0 ≤ s.toInt ∧ s.toInt < 8
  case neg =>
    refine ⟨S, pm_BAD, hok, fp_Cs.same fun I J hC => ?_, fp_Ms.same fun I J hM => ?_⟩
    · rw [e_X6_blend]; simp only [c_isT _ ht, fp_oI', Option.bind_some, fp_10, if_false, c_isT0 _ h2, if_true]
    · rw [e_X7_blend]; simp only [r_isT _ ht, fp_oI', Option.bind_some, fp_10, if_false, r_isT0 _ h2, if_true]
  obtain ⟨s', hs, rfl⟩ := fp_nat (k := 8) h2.1 h2.2 (by decide)
  by_cases h3 : 0 ≤ r.toInt ∧ r.toInt < 8
  case neg =>
    refine ⟨S, pm_BAD, hok, fp_Cs.same fun I J hC => ?_, fp_Ms.same fun I J hM => ?_⟩
    · rw [e_X6_blend]; simp only [c_isT _ ht, c_isT _ hs, fp_oI', Option.bind_some, fp_10, if_false, c_isT0 _ h3, if_true]
    · rw [e_X7_blend]; simp only [r_isT _ ht, r_isT _ hs, fp_oI', Option.bind_some, fp_10, if_false, r_isT0 _ h3, if_true]
  obtain ⟨r', hr, rfl⟩ := fp_nat (k := 8) h3.1 h3.2 (by decide)
  by_cases hx : 1 ≤ x.toInt ∧ x.toInt ≤ 1002000
  case neg =>
    refine ⟨S, pm_BAD, hok, fp_Cs.same fun I J hC => ?_, fp_Ms.same fun I J hM => ?_⟩
    · rw [e_X6_blend]; simp only [c_isT _ ht, c_isT _ hs, c_isT _ hr, fp_oI', Option.bind_some, fp_10, if_false]
      by_cases h4 : x < 1
      · rw [if_pos h4]
      · rw [if_neg h4, if_neg]
        intro h5
        simp only [Int32.lt_iff_toInt_lt, Int32.le_iff_toInt_le] at h4 h5
        simp at h4 h5
        omega
    · rw [e_X7_blend]; simp only [r_isT _ ht, r_isT _ hs, r_isT _ hr, fp_oI', Option.bind_some, fp_10, if_false]
      rw [r_isIn0 _ (by rw [fp_w]; exact hx), fp_oI']
      rfl
  have hxin : (1 : Int64).toInt ≤ x.toInt64.toInt ∧ x.toInt64.toInt ≤ (1002000 : Int64).toInt := by rw [fp_w]; exact hx
  obtain ⟨x', x1, x2, rfl⟩ := fp_natL (t := x) (j := 1) (k := 1002000) (by omega) (by omega) (by decide)
  have xa : ¬ nI x' < 1 := fp_nltR (by omega) (by omega)
  have xb : nI x' ≤ 1002000 := fp_leR (by omega) (by decide)
  have ed : nI x' / 1001 = nI (x' / 1001) := pk_div (d := 1001) (by omega) (by decide) (by decide)
  have er : pm_rem (nI x') 1001 = nI (x' % 1001) := fp_rem (d := 1001) (by omega) (by decide) (by decide)
  by_cases h4 : fp_pp2 (S.1 t') (S.1 s')
  case neg =>
    refine ⟨S, pm_NO, hok, fp_Cs.same fun I J hC => ?_, fp_Ms.same fun I J hM => ?_⟩
    · rw [e_X6_blend]; simp only [c_isT _ ht, c_isT _ hs, c_isT _ hr, fp_oI', Option.bind_some, fp_10, if_false]
      rw [if_neg xa, if_pos xb]
      simp only [k_1, cond_true, (c_areProper (L := L) (J := J) hR hok hC ht hs).2 h4, fp_oI', Option.bind_some, if_true]
    · rw [e_X7_blend]; simp only [r_isT _ ht, r_isT _ hs, r_isT _ hr, fp_oI', Option.bind_some, fp_10, if_false, r_isIn1 _ hxin, k_45, cond_true, (r_areProper (L := L) (J := J) hR hok hM ht hs).2 h4, if_true]
  have bT := fp_okT_1 (hok.1 t' ht) h4.1
  have bU := fp_okT_1 (hok.1 s' hs) h4.2.1
  by_cases h5 : (S.1 t').1 = (S.1 s').1 ∧ (S.1 t').2.1 = (S.1 s').2.1
  case neg =>
    refine ⟨S, pm_NO, hok, fp_Cs.same fun I J hC => ?_, fp_Ms.same fun I J hM => ?_⟩
    · rw [e_X6_blend]; simp only [c_isT _ ht, c_isT _ hs, c_isT _ hr, fp_oI', Option.bind_some, fp_10, if_false]
      rw [if_neg xa, if_pos xb]
      simp only [k_1, cond_true, (c_areProper (L := L) (J := J) hR hok hC ht hs).1 h4, fp_oI', Option.bind_some, fp_10, if_false, gr_1_0 hR, ar_2 hR ht, ar_2 hR hs, k_T (tb_t ht), c_hasShape (tb_t ht) (tb_t hs) (hC.1 t' ht) (hC.1 s' hs) (hok.1 t' ht) (hok.1 s' hs), fp_b_f h5, if_true]
    · rw [e_X7_blend]; simp only [r_isT _ ht, r_isT _ hs, r_isT _ hr, fp_oI', Option.bind_some, fp_10, if_false, r_isIn1 _ hxin, k_45, cond_true, (r_areProper (L := L) (J := J) hR hok hM ht hs).1 h4, r_q hR ht (fp_mt_of hM ht), r_q hR hs (fp_mt_of hM hs), r_a hR ht (fp_mt_of hM ht), r_a hR hs (fp_mt_of hM hs)]
      by_cases e1 : (S.1 t').1 = (S.1 s').1
      · rw [if_pos (by rw [e1]), if_neg (by rw [nI_eq (by omega) (by omega)]; exact fun q => h5 ⟨e1, q⟩)]
      · rw [if_neg (by rw [nI_eq (by omega) (by omega)]; exact e1)]
  have hvw : x' / 1001 + x' % 1001 ≤ 2001 := by omega
  have hvp : 0 < x' / 1001 + x' % 1001 := by omega
  have hWle : (x' / 1001 + x' % 1001) * (S.1 t').2.2.1 * (S.1 s').2.2.1 ≤ 2001 * 1000000 * 1000000 := Nat.mul_le_mul (Nat.mul_le_mul hvw bT.2.2.2.2.2.1) bU.2.2.2.2.2.1
  have hWpos : 0 < (x' / 1001 + x' % 1001) * (S.1 t').2.2.1 * (S.1 s').2.2.1 := Nat.mul_pos (Nat.mul_pos hvp (by omega)) (by omega)
  have hle := fp_bl_le (hok.1 t' ht) (hok.1 s' hs) (x' / 1001) (x' % 1001)
  refine ⟨fp_setS S r' (S.1 t').1 (S.1 t').2.1 ((x' / 1001 + x' % 1001) * (S.1 t').2.2.1 * (S.1 s').2.2.1) (fp_bl (S.1 t') (S.1 s') (x' / 1001) (x' % 1001)), fp_setV ((x' / 1001 + x' % 1001) * (S.1 t').2.2.1 * (S.1 s').2.2.1) (fp_bl (S.1 t') (S.1 s') (x' / 1001) (x' % 1001)), fp_set_ok hok hr bT.1 bT.2.1 bT.2.2.1 bT.2.2.2.1 hWpos hle (fun j hj => fp_bl_0 (hok.1 t' ht) h4.1 (hok.1 s' hs) h4.2.1 h5.1 h5.2 _ _ hj), fun I J hC => ?_, fun I J hM => ?_⟩
  · obtain ⟨I1, J1, c1, c2, c3⟩ := c_startBlended (L := L) (J := J) hR (tb_t ht) (tb_t hs) (hC.1 t' ht) (hC.1 s' hs) (hok.1 t' ht) (hok.1 s' hs) (v := x' / 1001) (w := x' % 1001) (by omega) (by omega)
    obtain ⟨I2, J2, d1, d2, d3⟩ := c_settle (L := L) hR hok (fp_CR_cong hC hok.2.1.1 (fun i _ h => c3 i (by omega))) hr hWpos (by omega) hle c2
    refine ⟨I2, J2, ?_, d2, fun i hi => by rw [d3 i hi, c3 i (by omega)]⟩
    rw [e_X6_blend]; simp only [c_isT _ ht, c_isT _ hs, c_isT _ hr, fp_oI', Option.bind_some, fp_10, if_false]
    rw [if_neg xa, if_pos xb]
    simp only [k_1, cond_true, (c_areProper (L := L) (J := J) hR hok hC ht hs).1 h4, fp_oI', Option.bind_some, fp_10, if_false, gr_1_0 hR, ar_2 hR ht, ar_2 hR hs, k_T (tb_t ht), c_hasShape (tb_t ht) (tb_t hs) (hC.1 t' ht) (hC.1 s' hs) (hok.1 t' ht) (hok.1 s' hs), fp_b_t h5, gr_1_4 hR, k_40, ed, er, c1, fp_oV', d1, fp_oL']
  · obtain ⟨J2, e1, e2⟩ := r_blendLoop (L := L) (J := J) hR hok hM ht hs (nI r') (x' / 1001) (x' % 1001)
    obtain ⟨I3, d1, d2, d3⟩ := r_lay (L := L) (J := va_up J2 45 (va_up (J2 45) 8 (lN ((x' / 1001 + x' % 1001) * (S.1 t').2.2.1 * (S.1 s').2.2.1)))) hR hok hM hr (q := (S.1 t').1) (a := (S.1 t').2.1) hWpos (by omega) hle (by rw [pm_up_same, pm_up_same]) (fun j hj => by rw [pm_up_other _ _ (by decide)]; exact e2 j hj)
    refine ⟨I3, va_up J2 45 (va_up (J2 45) 8 (lN ((x' / 1001 + x' % 1001) * (S.1 t').2.2.1 * (S.1 s').2.2.1))), ?_, d2, d3⟩
    rw [e_X7_blend]; simp only [r_isT _ ht, r_isT _ hs, r_isT _ hr, fp_oI', Option.bind_some, fp_10, if_false, r_isIn1 _ hxin, k_45, cond_true, (r_areProper (L := L) (J := J) hR hok hM ht hs).1 h4, r_q hR ht (fp_mt_of hM ht), r_q hR hs (fp_mt_of hM hs), r_a hR ht (fp_mt_of hM ht), r_a hR hs (fp_mt_of hM hs)]
    rw [if_pos (by rw [h5.1]), if_pos (by rw [h5.2]), ed, er, nI_l (by omega), nI_l (by omega), e1, e_X7_blend_98, if_pos (fp_le (Nat.le_refl _) (by decide))]
    simp only [k_45, cond_true, r_whole hR ht (fp_mt_of hM ht), r_whole hR hs (fp_mt_of hM hs), fp_oI', Option.bind_some, pl_45, r_q hR ht (fp_mt_of hM ht), r_a hR ht (fp_mt_of hM ht), lN_add]
    rw [nI_l (by omega), nI_l (by omega), lN_mul, lN_mul, d1, fp_oL']
    rfl
end FpBlend
