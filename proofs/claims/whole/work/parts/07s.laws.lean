/-! law, broken, near -/
section FpLaw1
variable {L : Nat} {R : Nat → Nat → Option Nat} {I : Nat → Nat → Int32} {J : Nat → Nat → Int64}
theorem fp_two_0 {T : fp_T} (h : fp_two T) : T.1 ≠ 0 := by rw [h.1]; decide
theorem b_law (hR : fp_RK R) (t k : Int32) : fp_Both L R mX6_law mX7_law [.int t, .int k] := by
  intro S hok
  by_cases h1 : 0 ≤ t.toInt ∧ t.toInt < 8
  case neg =>
    refine ⟨S, pm_BAD, hok, fp_Cs.same fun I J hC => ?_, fp_Ms.same fun I J hM => ?_⟩
    · rw [e_X6_law, c_isT0 _ h1, fp_oI']; rfl
    · rw [e_X7_law, r_isT0 _ h1, fp_oI']; rfl
  obtain ⟨t', ht, rfl⟩ := fp_nat (k := 8) h1.1 h1.2 (by decide)
  have hT := fp_okT_q (hok.1 t' ht)
  by_cases h2 : 0 ≤ k.toInt ∧ k.toInt < 8
  case neg =>
    refine ⟨S, pm_BAD, hok, fp_Cs.same fun I J hC => ?_, fp_Ms.same fun I J hM => ?_⟩
    · rw [e_X6_law]
      simp only [c_isT _ ht, fp_oI', Option.bind_some, fp_10, if_false]
      by_cases h3 : k < 0
      · rw [if_pos h3]
      · rw [if_neg h3, if_neg]
        intro h4
        simp only [Int32.lt_iff_toInt_lt] at h3 h4
        simp at h3 h4
        omega
    · rw [e_X7_law]
      simp only [r_isT _ ht, fp_oI', Option.bind_some, fp_10, if_false]
      rw [r_isIn0 _ (fp_isIn0 (n := 7) (by decide) h2), fp_oI']
      rfl
  obtain ⟨k', hk, rfl⟩ := fp_nat (k := 8) h2.1 h2.2 (by decide)
  have hin := fp_isIn1 (w := k') (k := 7) (by omega) (show (k' : Int) ≤ 7 by omega)
  by_cases h3 : fp_two (S.1 t') ∧ fp_pr (S.1 t')
  · have h0 := fp_two_0 h3.1
    refine ⟨S, zL (fp_cw (S.1 t') k'), hok, fp_Cs.same fun I J hC => ?_, fp_Ms.same fun I J hM => ?_⟩
    · rw [e_X6_law]
      simp only [c_isT _ ht, fp_oI', Option.bind_some, fp_10, if_false]
      rw [if_neg (nI_pos (by omega)), if_pos (fp_ltR (by omega) (by decide))]
      simp only [gr_1_0 hR, ar_2 hR ht, Option.bind_some, k_T (tb_t ht), cond_true, (c_isTwo (L := L) (R := R) (J := J) (tb_t ht) (hC.1 t' ht) (hok.1 t' ht)).1 h3.1, (c_isProper (L := L) (J := J) hR (tb_t ht) (hC.1 t' ht) (hok.1 t' ht)).1 h3.2, fp_oI', fp_oL', fp_10, if_false, c_cornerLaw hR (tb_t ht) (hC.1 t' ht) (hok.1 t' ht) hk]
    · rw [e_X7_law]
      simp only [r_isT _ ht, fp_oI', fp_oL', Option.bind_some, fp_10, if_false, r_isIn1 _ hin, k_45, cond_true, r_isMissing0 hR ht (fp_mt_of hM ht) h0 hT.1, if_true, (r_isTwo (L := L) (J := J) hR ht (fp_mt_of hM ht) (hok.1 t' ht)).1 h3.1, (r_isProper (L := L) (J := J) hR ht (fp_mt_of hM ht) (hok.1 t' ht)).1 h3.2, r_lawOf hR ht (fp_mt_of hM ht) (hok.1 t' ht) hk]
  · refine ⟨S, pm_NO, hok, fp_Cs.same fun I J hC => ?_, fp_Ms.same fun I J hM => ?_⟩
    · rw [e_X6_law]
      simp only [c_isT _ ht, fp_oI', Option.bind_some, fp_10, if_false]
      rw [if_neg (nI_pos (by omega)), if_pos (fp_ltR (by omega) (by decide))]
      by_cases h4 : fp_two (S.1 t')
      · simp only [gr_1_0 hR, ar_2 hR ht, Option.bind_some, k_T (tb_t ht), cond_true, (c_isTwo (L := L) (R := R) (J := J) (tb_t ht) (hC.1 t' ht) (hok.1 t' ht)).1 h4, (c_isProper (L := L) (J := J) hR (tb_t ht) (hC.1 t' ht) (hok.1 t' ht)).2 (fun q => h3 ⟨h4, q⟩), fp_oI', fp_10, if_false, if_true]
      · simp only [gr_1_0 hR, ar_2 hR ht, Option.bind_some, k_T (tb_t ht), cond_true, (c_isTwo (L := L) (R := R) (J := J) (tb_t ht) (hC.1 t' ht) (hok.1 t' ht)).2 h4, fp_oI', if_true]
    · rw [e_X7_law]
      by_cases h0 : (S.1 t').1 = 0
      · simp only [r_isT _ ht, fp_oI', Option.bind_some, fp_10, if_false, r_isIn1 _ hin, k_45, cond_true, r_isMissing hR ht (fp_mt_of hM ht) h0]
      · by_cases h4 : fp_two (S.1 t')
        · simp only [r_isT _ ht, fp_oI', Option.bind_some, fp_10, if_false, r_isIn1 _ hin, k_45, cond_true, r_isMissing0 hR ht (fp_mt_of hM ht) h0 hT.1, if_true, (r_isTwo (L := L) (J := J) hR ht (fp_mt_of hM ht) (hok.1 t' ht)).1 h4, (r_isProper (L := L) (J := J) hR ht (fp_mt_of hM ht) (hok.1 t' ht)).2 (fun q => h3 ⟨h4, q⟩)]
        · simp only [r_isT _ ht, fp_oI', Option.bind_some, fp_10, if_false, r_isIn1 _ hin, k_45, cond_true, r_isMissing0 hR ht (fp_mt_of hM ht) h0 hT.1, if_true, (r_isTwo (L := L) (J := J) hR ht (fp_mt_of hM ht) (hok.1 t' ht)).2 h4]
theorem r_isSilentTwo (hR : fp_RK R) {t : Nat} (ht : t < 8) {T : fp_T} (hT : fp_mt I t T) (hok : fp_okT T) : (fp_two T ∧ fp_si T → pm_C mX7_isSilentTwo [.ref 45, .int (nI t)] (fp_m L R I J) = some (.int 1, fp_m L R I J)) ∧ (¬ (fp_two T ∧ fp_si T) → pm_C mX7_isSilentTwo [.ref 45, .int (nI t)] (fp_m L R I J) = some (.int 0, fp_m L R I J)) := by
  have hq := fp_okT_q hok
  have e := r_isTwo (L := L) (J := J) hR ht hT hok
  rw [e_X7_isSilentTwo]
  constructor
  · intro h
    have h0 := fp_two_0 h.1
    simp only [k_45, cond_true, r_isMissing0 hR ht hT h0 hq.1, fp_oI', Option.bind_some, if_true, e.1 h.1, (r_isSilent (L := L) (J := J) hR ht hT hok h0).1 h.2, fp_10, if_false]
  · intro h
    by_cases h0 : T.1 = 0
    · simp only [k_45, cond_true, r_isMissing hR ht hT h0, fp_oI', Option.bind_some, fp_10, if_false]
    · by_cases h4 : fp_two T
      · simp only [k_45, cond_true, r_isMissing0 hR ht hT h0 hq.1, fp_oI', Option.bind_some, if_true, e.1 h4, (r_isSilent (L := L) (J := J) hR ht hT hok h0).2 (fun q => h ⟨h4, q⟩), fp_10, if_false]
      · simp only [k_45, cond_true, r_isMissing0 hR ht hT h0 hq.1, fp_oI', Option.bind_some, if_true, e.2 h4]
theorem b_broken (hR : fp_RK R) (t : Int32) : fp_Both L R mX6_broken mX7_broken [.int t] := by
  intro S hok
  by_cases h1 : 0 ≤ t.toInt ∧ t.toInt < 8
  case neg =>
    refine ⟨S, pm_BAD, hok, fp_Cs.same fun I J hC => ?_, fp_Ms.same fun I J hM => ?_⟩
    · rw [e_X6_broken, c_isT0 _ h1, fp_oI']; rfl
    · rw [e_X7_broken, r_isT0 _ h1, fp_oI']; rfl
  obtain ⟨t', ht, rfl⟩ := fp_nat (k := 8) h1.1 h1.2 (by decide)
  have hT := fp_okT_q (hok.1 t' ht)
  by_cases h3 : fp_two (S.1 t') ∧ fp_si (S.1 t')
  · have h0 := fp_two_0 h3.1
    have b := fp_cw_b (hok.1 t' ht) (fp_grl (S.1 t') 7)
    refine ⟨S, if fp_gv (S.1 t') ≤ 2 * (S.1 t').2.2.1 then pm_NONE else (nI (fp_grl (S.1 t') 7)).toInt64, hok, fp_Cs.same fun I J hC => ?_, fp_Ms.same fun I J hM => ?_⟩
    · rw [e_X6_broken]
      simp only [c_isT _ ht, fp_oI', fp_oL', Option.bind_some, fp_10, if_false, gr_1_0 hR, ar_2 hR ht, k_T (tb_t ht), cond_true, (c_isTwo (L := L) (R := R) (J := J) (tb_t ht) (hC.1 t' ht) (hok.1 t' ht)).1 h3.1, (c_isSilent (L := L) (J := J) hR (tb_t ht) (hC.1 t' ht) (hok.1 t' ht) h0).1 h3.2, c_greatest hR (tb_t ht) (hC.1 t' ht) (hok.1 t' ht), c_cornerLaw hR (tb_t ht) (hC.1 t' ht) (hok.1 t' ht) (fp_gcl _), gi_T (tb_t ht), (hC.1 t' ht).2.2.1, fp_w2 (show (S.1 t').2.2.1 < 2 ^ 31 by omega), fp_cmp_le, zL_le (show -9223372036854775808 ≤ fp_cw (S.1 t') (fp_grl (S.1 t') 7) by omega) (by omega) (show -9223372036854775808 ≤ 2 * ((S.1 t').2.2.1 : Int) by omega) (by omega)]
      unfold fp_gv
      split <;> rfl
    · have k := r_keepsAll (L := L) (J := J) hR ht (fp_mt_of hM ht) (hok.1 t' ht)
      rw [e_X7_broken]
      simp only [r_isT _ ht, fp_oI', Option.bind_some, fp_10, if_false, k_45, cond_true, (r_isSilentTwo (L := L) (J := J) hR ht (fp_mt_of hM ht) (hok.1 t' ht)).1 h3]
      by_cases h4 : fp_gv (S.1 t') ≤ 2 * (S.1 t').2.2.1
      · rw [if_pos h4, k.1 h4, fp_oI']; rfl
      · rw [if_neg h4, k.2 h4, fp_oI']
        simp only [Option.bind_some, if_true, k_45, cond_true, r_greatest hR ht (fp_mt_of hM ht) (hok.1 t' ht), fp_oI']
  · refine ⟨S, pm_NO, hok, fp_Cs.same fun I J hC => ?_, fp_Ms.same fun I J hM => ?_⟩
    · rw [e_X6_broken]
      by_cases h4 : fp_two (S.1 t')
      · have h0 := fp_two_0 h4
        simp only [c_isT _ ht, fp_oI', Option.bind_some, fp_10, if_false, gr_1_0 hR, ar_2 hR ht, k_T (tb_t ht), cond_true, (c_isTwo (L := L) (R := R) (J := J) (tb_t ht) (hC.1 t' ht) (hok.1 t' ht)).1 h4, (c_isSilent (L := L) (J := J) hR (tb_t ht) (hC.1 t' ht) (hok.1 t' ht) h0).2 (fun q => h3 ⟨h4, q⟩), if_true]
      · simp only [c_isT _ ht, fp_oI', Option.bind_some, fp_10, if_false, gr_1_0 hR, ar_2 hR ht, k_T (tb_t ht), cond_true, (c_isTwo (L := L) (R := R) (J := J) (tb_t ht) (hC.1 t' ht) (hok.1 t' ht)).2 h4, if_true]
    · rw [e_X7_broken]
      simp only [r_isT _ ht, fp_oI', Option.bind_some, fp_10, if_false, k_45, cond_true, (r_isSilentTwo (L := L) (J := J) hR ht (fp_mt_of hM ht) (hok.1 t' ht)).2 h3, if_true]
theorem b_near (hR : fp_RK R) (t w p : Int32) : fp_Both L R mX6_near mX7_near [.int t, .int w, .int p] := by
  intro S hok
  by_cases h1 : 0 ≤ t.toInt ∧ t.toInt < 8
  case neg =>
    refine ⟨S, pm_BAD, hok, fp_Cs.same fun I J hC => ?_, fp_Ms.same fun I J hM => ?_⟩
    · rw [e_X6_near, c_isT0 _ h1, fp_oI']; rfl
    · rw [e_X7_near, r_isT0 _ h1, fp_oI']; rfl
  obtain ⟨t', ht, rfl⟩ := fp_nat (k := 8) h1.1 h1.2 (by decide)
  have hT := fp_okT_q (hok.1 t' ht)
  by_cases h2 : 0 ≤ w.toInt ∧ w.toInt < 2
  case neg =>
    refine ⟨S, pm_BAD, hok, fp_Cs.same fun I J hC => ?_, fp_Ms.same fun I J hM => ?_⟩
    · rw [e_X6_near]
      simp only [c_isT _ ht, fp_oI', Option.bind_some, fp_10, if_false]
      by_cases h3 : w < 0
      · rw [if_pos h3]
      · rw [if_neg h3, if_pos]
        simp only [Int32.lt_iff_toInt_lt] at h3 ⊢
        simp at h3 ⊢
        omega
    · rw [e_X7_near]
      simp only [r_isT _ ht, fp_oI', Option.bind_some, fp_10, if_false]
      rw [r_isIn0 _ (fp_isIn0 (n := 1) (by decide) h2), fp_oI']
      rfl
  obtain ⟨w', hw, rfl⟩ := fp_nat (k := 2) h2.1 h2.2 (by decide)
  have hin := fp_isIn1 (w := w') (k := 1) (by omega) (show (w' : Int) ≤ 1 by omega)
  by_cases h3 : 0 ≤ p.toInt ∧ p.toInt < 2
  case neg =>
    refine ⟨S, pm_BAD, hok, fp_Cs.same fun I J hC => ?_, fp_Ms.same fun I J hM => ?_⟩
    · rw [e_X6_near]
      simp only [c_isT _ ht, fp_oI', Option.bind_some, fp_10, if_false]
      rw [if_neg (nI_pos (by omega)), if_neg (fp_nltL (by omega) (by decide)), c_isPart, fp_b_f h3, fp_oI']
      rfl
    · rw [e_X7_near]
      simp only [r_isT _ ht, fp_oI', Option.bind_some, fp_10, if_false, r_isIn1 _ hin]
      rw [r_isIn0 _ (fp_isIn0 (n := 1) (by decide) h3), fp_oI']
      rfl
  obtain ⟨p', hp, rfl⟩ := fp_nat (k := 2) h3.1 h3.2 (by decide)
  have hin2 := fp_isIn1 (w := p') (k := 1) (by omega) (show (p' : Int) ≤ 1 by omega)
  by_cases h4 : fp_two (S.1 t') ∧ fp_si (S.1 t')
  case neg =>
    refine ⟨S, pm_NO, hok, fp_Cs.same fun I J hC => ?_, fp_Ms.same fun I J hM => ?_⟩
    · rw [e_X6_near]
      simp only [c_isT _ ht, fp_oI', Option.bind_some, fp_10, if_false]
      rw [if_neg (nI_pos (by omega)), if_neg (fp_nltL (by omega) (by decide)), c_isPart, fp_b_t h3, fp_oI']
      by_cases h5 : fp_two (S.1 t')
      · have h0 := fp_two_0 h5
        simp only [Option.bind_some, fp_oI', fp_10, if_false, gr_1_0 hR, ar_2 hR ht, k_T (tb_t ht), cond_true, (c_isTwo (L := L) (R := R) (J := J) (tb_t ht) (hC.1 t' ht) (hok.1 t' ht)).1 h5, (c_isSilent (L := L) (J := J) hR (tb_t ht) (hC.1 t' ht) (hok.1 t' ht) h0).2 (fun q => h4 ⟨h5, q⟩), if_true]
      · simp only [Option.bind_some, fp_oI', fp_10, if_false, gr_1_0 hR, ar_2 hR ht, k_T (tb_t ht), cond_true, (c_isTwo (L := L) (R := R) (J := J) (tb_t ht) (hC.1 t' ht) (hok.1 t' ht)).2 h5, if_true]
    · rw [e_X7_near]
      simp only [r_isT _ ht, fp_oI', Option.bind_some, fp_10, if_false, r_isIn1 _ hin, r_isIn1 _ hin2, k_45, cond_true, (r_isSilentTwo (L := L) (J := J) hR ht (fp_mt_of hM ht) (hok.1 t' ht)).2 h4, if_true]
  have h0 := fp_two_0 h4.1
  have ho := fp_okT_1 (hok.1 t' ht) h0
  have b := fp_cw_b (hok.1 t' ht) (fp_grl (S.1 t') 7)
  refine ⟨S, if fp_gv (S.1 t') ≤ 2 * (S.1 t').2.2.1 then (if p' = 1 ∨ w' = 0 then 1 else 0) else if w' = 0 then fp_frac (4 * (S.1 t').2.2.1 - fp_gv (S.1 t')) (2 * (S.1 t').2.2.1) (nI p') else fp_frac (fp_gv (S.1 t') - 2 * (S.1 t').2.2.1) (fp_gv (S.1 t')).toNat (nI p'), hok, fp_Cs.same fun I J hC => ?_, fp_Ms.same fun I J hM => ?_⟩
  · rw [e_X6_near]
    simp only [c_isT _ ht, fp_oI', Option.bind_some, fp_10, if_false]
    rw [if_neg (nI_pos (by omega)), if_neg (fp_nltL (by omega) (by decide)), c_isPart, fp_b_t h3, fp_oI']
    simp only [fp_oI', fp_oL', Option.bind_some, fp_10, if_false, gr_1_0 hR, ar_2 hR ht, k_T (tb_t ht), cond_true, (c_isTwo (L := L) (R := R) (J := J) (tb_t ht) (hC.1 t' ht) (hok.1 t' ht)).1 h4.1, (c_isSilent (L := L) (J := J) hR (tb_t ht) (hC.1 t' ht) (hok.1 t' ht) h0).1 h4.2, c_greatest hR (tb_t ht) (hC.1 t' ht) (hok.1 t' ht), c_cornerLaw hR (tb_t ht) (hC.1 t' ht) (hok.1 t' ht) (fp_gcl _), gi_T (tb_t ht), (hC.1 t' ht).2.2.1, fp_w2 (show (S.1 t').2.2.1 < 2 ^ 31 by omega), fp_cmp_gt, zL_lt (show -9223372036854775808 ≤ 2 * ((S.1 t').2.2.1 : Int) by omega) (by omega) (show -9223372036854775808 ≤ fp_cw (S.1 t') (fp_grl (S.1 t') 7) by omega) (by omega)]
    rw [show fp_cw (S.1 t') (fp_grl (S.1 t') 7) = fp_gv (S.1 t') from rfl] at b ⊢
    by_cases h5 : fp_gv (S.1 t') ≤ 2 * (S.1 t').2.2.1
    · rw [if_neg (by omega), if_pos h5]
      rcases (by omega : w' = 0 ∨ w' = 1) with rfl | rfl
      · have c := c_fraction (fp_m L R I J) (z := 1) (y := 1) (by decide) (by decide) (by decide) (by decide) (nI p')
        rw [show ((1 : Int32) - nI 0).toInt64 = zL 1 from by decide, show (1 : Int64) = lN 1 from rfl, c, fp_oL']
        rcases (by omega : p' = 0 ∨ p' = 1) with rfl | rfl <;> rfl
      · have c := c_fraction (fp_m L R I J) (z := 0) (y := 1) (by decide) (by decide) (by decide) (by decide) (nI p')
        rw [show ((1 : Int32) - nI 1).toInt64 = zL 0 from by decide, show (1 : Int64) = lN 1 from rfl, c, fp_oL']
        rcases (by omega : p' = 0 ∨ p' = 1) with rfl | rfl <;> rfl
    · rw [if_pos (by omega), if_neg h5]
      by_cases h6 : w' = 0
      · rw [if_pos (fp_eqR h6), if_pos h6, show (2 : Int64) = zL 2 from rfl, zL_mul, zL_sub, show (2 : Int) * (2 * ((S.1 t').2.2.1 : Int)) - fp_gv (S.1 t') = 4 * ((S.1 t').2.2.1 : Int) - fp_gv (S.1 t') by omega, show zL (2 * ((S.1 t').2.2.1 : Int)) = lN (2 * (S.1 t').2.2.1) by rw [zL_n]; rfl, c_fraction _ (by omega) (by omega) (by omega) (by omega), fp_oL']
        rfl
      · rw [if_neg (fp_ne h6 (by omega) (by decide)), if_neg h6, zL_sub, show zL (fp_gv (S.1 t')) = lN (fp_gv (S.1 t')).toNat by rw [zL_n]; congr 1; omega, c_fraction _ (by omega) (by omega) (by omega) (by omega), fp_oL']
        rfl
  · rw [e_X7_near]
    simp only [r_isT _ ht, fp_oI', fp_oL', Option.bind_some, fp_10, if_false, r_isIn1 _ hin, r_isIn1 _ hin2, k_45, cond_true, (r_isSilentTwo (L := L) (J := J) hR ht (fp_mt_of hM ht) (hok.1 t' ht)).1 h4, r_whole hR ht (fp_mt_of hM ht), r_greatest hR ht (fp_mt_of hM ht) (hok.1 t' ht), r_lawOf hR ht (fp_mt_of hM ht) (hok.1 t' ht) (fp_gcl _), fp_w2 (show (S.1 t').2.2.1 < 2 ^ 31 by omega), fp_cmp_gt, zL_lt (show -9223372036854775808 ≤ 2 * ((S.1 t').2.2.1 : Int) by omega) (by omega) (show -9223372036854775808 ≤ fp_cw (S.1 t') (fp_grl (S.1 t') 7) by omega) (by omega)]
    rw [show fp_cw (S.1 t') (fp_grl (S.1 t') 7) = fp_gv (S.1 t') from rfl] at b ⊢
    by_cases h5 : fp_gv (S.1 t') ≤ 2 * (S.1 t').2.2.1
    · rw [if_neg (by omega), if_pos h5]
      rcases (by omega : w' = 0 ∨ w' = 1) with rfl | rfl <;> rcases (by omega : p' = 0 ∨ p' = 1) with rfl | rfl <;> rfl
    · rw [if_pos (by omega), if_neg h5]
      by_cases h6 : w' = 0
      · rw [if_pos (fp_eqR h6), if_pos h6, nI_l (by omega), zL_n, show (4 : Int64) = zL 4 from rfl, zL_mul, zL_sub, show zL (2 * ((S.1 t').2.2.1 : Int)) = lN (2 * (S.1 t').2.2.1) by rw [zL_n]; rfl, r_part _ (by omega) (by omega) (by omega) (by omega), fp_oL']
        rfl
      · rw [if_neg (fp_ne h6 (by omega) (by decide)), if_neg h6, zL_sub, show zL (fp_gv (S.1 t')) = lN (fp_gv (S.1 t')).toNat by rw [zL_n]; congr 1; omega, r_part _ (by omega) (by omega) (by omega) (by omega), fp_oL']
        rfl
end FpLaw1
