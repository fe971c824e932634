/-! same -/
abbrev fp_eqc (T U : fp_T) (j : Nat) : Prop := (nI (T.2.2.2 j)).toInt64 * (nI U.2.2.1).toInt64 = (nI (U.2.2.2 j)).toInt64 * (nI T.2.2.1).toInt64
def fp_alike (T U : fp_T) : Prop := (T.1 = U.1 ∧ T.2.1 = U.2.1) ∧ ∀ j, j < 81 → fp_eqc T U j
section FpSame
variable {L : Nat} {R : Nat → Nat → Option Nat} {I : Nat → Nat → Int32} {J : Nat → Nat → Int64}
theorem c_hasShapeOf {r u : Nat} (hr : fp_tb r) (hu : fp_tb u) {T U : fp_T} (hT : fp_at I r T) (hU : fp_at I u U) (h : T.1 = U.1 ∧ T.2.1 = U.2.1) : pm_C mX5_hasShapeOf [.ref r, .ref u] (fp_m L R I J) = some (.int 1, fp_m L R I J) := by
  rw [e_X5_hasShapeOf]
  simp only [gi_T hr, gi_T hu, Option.bind_some, hT.1, hT.2.1, hU.1, hU.2.1, h.1, h.2, if_true]
theorem c_hasShapeOf0 {r u : Nat} (hr : fp_tb r) (hu : fp_tb u) {T U : fp_T} (hT : fp_at I r T) (hU : fp_at I u U) (t1 : T.1 ≤ 3) (t2 : T.2.1 ≤ 3) (u1 : U.1 ≤ 3) (u2 : U.2.1 ≤ 3) (h : ¬ (T.1 = U.1 ∧ T.2.1 = U.2.1)) : pm_C mX5_hasShapeOf [.ref r, .ref u] (fp_m L R I J) = some (.int 0, fp_m L R I J) := by
  rw [e_X5_hasShapeOf]
  simp only [gi_T hr, gi_T hu, Option.bind_some, hT.1, hT.2.1, hU.1, hU.2.1]
  by_cases e : T.1 = U.1
  · rw [if_pos (by rw [e]), if_neg]
    rw [nI_eq (by omega) (by omega)]
    exact fun q => h ⟨e, q⟩
  · rw [if_neg]
    rw [nI_eq (by omega) (by omega)]
    exact e
theorem c_hasChancesOf (hR : fp_RK R) {r u : Nat} (hr : fp_tb r) (hu : fp_tb u) {T U : fp_T} (hT : fp_at I r T) (hU : fp_at I u U) (t1 : T.1 ≤ 3) (t2 : T.2.1 ≤ 3) (u1 : U.1 ≤ 3) (u2 : U.2.1 ≤ 3) : (fp_alike T U → pm_C mX5_hasChancesOf [.ref r, .ref u] (fp_m L R I J) = some (.int 1, fp_m L R I J)) ∧ (¬ fp_alike T U → pm_C mX5_hasChancesOf [.ref r, .ref u] (fp_m L R I J) = some (.int 0, fp_m L R I J)) := by
  have loop := fp_lpx (fun i => pm_res mX5_hasChancesOf 12 [(0, .ref r), (1, .ref u), (2, .int (nI i))] [] (fp_m L R I J)) (fun j => ¬ fp_eqc T U j) (fun _ => some (.int 0, fp_m L R I J)) 81 (fun i hi => by
    rw [e_X5_hasChancesOf_12, if_neg (fp_ge hi (by decide))]
    simp only [gr_T hR hr, gr_T hR hu, Option.bind_some, ai_T hr hi, ai_T hu hi, gi_T hr, gi_T hu, hT.2.2.1, hU.2.2.1, hT.2.2.2 i hi, hU.2.2.2 i hi, fp_cmp_eq, nI_1]
    by_cases e : fp_eqc T U i
    · rw [if_neg (not_not_intro e), if_pos e]
    · rw [if_pos e, if_neg e])
  have fin : pm_res mX5_hasChancesOf 12 [(0, .ref r), (1, .ref u), (2, .int (nI 81))] [] (fp_m L R I J) = some (.int 1, fp_m L R I J) := by
    rw [e_X5_hasChancesOf_12, if_pos (fp_le (Nat.le_refl _) (by decide))]
  rw [e_X5_hasChancesOf, k_T hr, cond_true]
  constructor
  · intro h
    rw [c_hasShapeOf hr hu hT hU h.1, fp_oI']
    simp only [Option.bind_some, fp_10, if_false]
    rcases loop with ⟨i, h1, h2, -⟩ | ⟨-, h2⟩
    · exact absurd (h.2 i h1) h2
    · exact h2.trans fin
  · intro h
    by_cases hs : T.1 = U.1 ∧ T.2.1 = U.2.1
    · rw [c_hasShapeOf hr hu hT hU hs, fp_oI']
      simp only [Option.bind_some, fp_10, if_false]
      rcases loop with ⟨i, h1, h2, -, h3⟩ | ⟨h1, h2⟩
      · exact h3
      · exact absurd ⟨hs, fun j hj => Classical.not_not.mp (h1 j hj)⟩ h
    · rw [c_hasShapeOf0 hr hu hT hU t1 t2 u1 u2 hs, fp_oI']
      rfl
theorem r_areAlike (hR : fp_RK R) {t u : Nat} (ht : t < 8) (hu : u < 8) {T U : fp_T} (hT : fp_mt I t T) (hU : fp_mt I u U) (t1 : T.1 ≤ 3) (t2 : T.2.1 ≤ 3) (u1 : U.1 ≤ 3) (u2 : U.2.1 ≤ 3) : (fp_alike T U → pm_C mX7_areAlike [.ref 45, .int (nI t), .int (nI u)] (fp_m L R I J) = some (.int 1, fp_m L R I J)) ∧ (¬ fp_alike T U → pm_C mX7_areAlike [.ref 45, .int (nI t), .int (nI u)] (fp_m L R I J) = some (.int 0, fp_m L R I J)) := by
  have step0 : ∀ i, i ≤ 81 → pm_res mX7_areAlike 33 [(0, .ref 45), (1, .int (nI t)), (2, .int (nI u)), (3, .int 0), (4, .int (nI i))] [] (fp_m L R I J) = some (.int 0, fp_m L R I J) := by
    intro i hi
    have := fp_lp (fun i => pm_res mX7_areAlike 33 [(0, .ref 45), (1, .int (nI t)), (2, .int (nI u)), (3, .int 0), (4, .int (nI i))] [] (fp_m L R I J)) hi (fun j h1 h2 => by
      rw [e_X7_areAlike_33, if_neg (fp_ge h2 (by decide)), if_pos rfl, nI_1])
    refine this.trans ?_
    rw [e_X7_areAlike_33, if_pos (fp_le (Nat.le_refl _) (by decide))]
    rfl
  have loop := fp_lpx (fun i => pm_res mX7_areAlike 33 [(0, .ref 45), (1, .int (nI t)), (2, .int (nI u)), (3, .int 1), (4, .int (nI i))] [] (fp_m L R I J)) (fun j => ¬ fp_eqc T U j) (fun _ => some (.int 0, fp_m L R I J)) 81 (fun i hi => by
    rw [e_X7_areAlike_33, if_neg (fp_ge hi (by decide)), if_neg (by decide)]
    simp only [gr_45_0 hR, Option.bind_some, nm_84, na_3, nI_add, k_45, cond_true, r_whole hR ht hT, r_whole hR hu hU, fp_oI']
    rw [r_cell hR ht hi hT]
    simp only [Option.bind_some]
    rw [r_cell hR hu hi hU]
    simp only [Option.bind_some, fp_cmp_eq, nI_1]
    by_cases e : fp_eqc T U i
    · rw [if_neg (not_not_intro e), if_pos e]
    · rw [if_pos e, if_neg e]
      exact step0 (i + 1) (by omega))
  have fin : pm_res mX7_areAlike 33 [(0, .ref 45), (1, .int (nI t)), (2, .int (nI u)), (3, .int 1), (4, .int (nI 81))] [] (fp_m L R I J) = some (.int 1, fp_m L R I J) := by
    rw [e_X7_areAlike_33, if_pos (fp_le (Nat.le_refl _) (by decide))]
    rfl
  rw [e_X7_areAlike]
  simp only [k_45, cond_true, r_q hR ht hT, r_q hR hu hU, fp_oI', Option.bind_some]
  constructor
  · intro h
    rw [if_pos (by rw [h.1.1])]
    simp only [k_45, cond_true, r_a hR ht hT, r_a hR hu hU, fp_oI', Option.bind_some]
    rw [if_pos (by rw [h.1.2])]
    rcases loop with ⟨i, h1, h2, -⟩ | ⟨-, h2⟩
    · exact absurd (h.2 i h1) h2
    · exact h2.trans fin
  · intro h
    by_cases e : T.1 = U.1
    · rw [if_pos (by rw [e])]
      simp only [k_45, cond_true, r_a hR ht hT, r_a hR hu hU, fp_oI', Option.bind_some]
      by_cases e2 : T.2.1 = U.2.1
      · rw [if_pos (by rw [e2])]
        rcases loop with ⟨i, h1, h2, -, h3⟩ | ⟨h1, h2⟩
        · exact h3
        · exact absurd ⟨⟨e, e2⟩, fun j hj => Classical.not_not.mp (h1 j hj)⟩ h
      · rw [if_neg]
        rw [nI_eq (by omega) (by omega)]
        exact e2
    · rw [if_neg]
      rw [nI_eq (by omega) (by omega)]
      exact e
theorem b_same (hR : fp_RK R) (t u : Int32) : fp_Both L R mX6_same mX7_same [.int t, .int u] := by
  intro S hok
  by_cases h1 : 0 ≤ t.toInt ∧ t.toInt < 8
  case neg =>
    refine ⟨S, pm_BAD, hok, fp_Cs.same fun I J hC => ?_, fp_Ms.same fun I J hM => ?_⟩
    · rw [e_X6_same, c_isT0 _ h1, fp_oI']; rfl
    · rw [e_X7_same, r_isT0 _ h1, fp_oI']; rfl
  obtain ⟨t', ht, rfl⟩ := fp_nat (k := 8) h1.1 h1.2 (by decide)
  by_cases h2 : 0 ≤ u.toInt ∧ u.toInt < 8
  case neg =>
    refine ⟨S, pm_BAD, hok, fp_Cs.same fun I J hC => ?_, fp_Ms.same fun I J hM => ?_⟩
    · rw [e_X6_same]; simp only [c_isT _ ht, fp_oI', Option.bind_some, fp_10, if_false, c_isT0 _ h2, if_true]
    · rw [e_X7_same]; simp only [r_isT _ ht, fp_oI', Option.bind_some, fp_10, if_false, r_isT0 _ h2, if_true]
  obtain ⟨u', hu, rfl⟩ := fp_nat (k := 8) h2.1 h2.2 (by decide)
  have hT := fp_okT_q (hok.1 t' ht)
  have hU := fp_okT_q (hok.1 u' hu)
  by_cases h0 : (S.1 t').1 = 0
  · refine ⟨S, pm_NO, hok, fp_Cs.same fun I J hC => ?_, fp_Ms.same fun I J hM => ?_⟩
    · rw [e_X6_same]; simp only [c_isT _ ht, c_isT _ hu, fp_oI', Option.bind_some, fp_10, if_false, gr_1_0 hR, ar_2 hR ht, k_T (tb_t ht), cond_true, c_isMissing (tb_t ht) (hC.1 t' ht) h0]
    · rw [e_X7_same]; simp only [r_isT _ ht, r_isT _ hu, fp_oI', Option.bind_some, fp_10, if_false, k_45, cond_true, r_isMissing hR ht (fp_mt_of hM ht) h0]
  by_cases h3 : (S.1 u').1 = 0
  · refine ⟨S, pm_NO, hok, fp_Cs.same fun I J hC => ?_, fp_Ms.same fun I J hM => ?_⟩
    · rw [e_X6_same]; simp only [c_isT _ ht, c_isT _ hu, fp_oI', Option.bind_some, fp_10, if_false, gr_1_0 hR, ar_2 hR ht, ar_2 hR hu, k_T (tb_t ht), k_T (tb_t hu), cond_true, c_isMissing0 (tb_t ht) (hC.1 t' ht) h0 hT.1, c_isMissing (tb_t hu) (hC.1 u' hu) h3, if_true]
    · rw [e_X7_same]; simp only [r_isT _ ht, r_isT _ hu, fp_oI', Option.bind_some, fp_10, if_false, k_45, cond_true, r_isMissing0 hR ht (fp_mt_of hM ht) h0 hT.1, r_isMissing hR hu (fp_mt_of hM hu) h3, if_true]
  by_cases h4 : fp_alike (S.1 t') (S.1 u')
  · refine ⟨S, 1, hok, fp_Cs.same fun I J hC => ?_, fp_Ms.same fun I J hM => ?_⟩
    · rw [e_X6_same]; simp only [c_isT _ ht, c_isT _ hu, fp_oI', Option.bind_some, fp_10, if_false, gr_1_0 hR, ar_2 hR ht, ar_2 hR hu, k_T (tb_t ht), k_T (tb_t hu), cond_true, c_isMissing0 (tb_t ht) (hC.1 t' ht) h0 hT.1, c_isMissing0 (tb_t hu) (hC.1 u' hu) h3 hU.1, if_true, (c_hasChancesOf (L := L) (J := J) hR (tb_t ht) (tb_t hu) (hC.1 t' ht) (hC.1 u' hu) hT.1 hT.2.1 hU.1 hU.2.1).1 h4]
    · rw [e_X7_same]; simp only [r_isT _ ht, r_isT _ hu, fp_oI', Option.bind_some, fp_10, if_false, k_45, cond_true, r_isMissing0 hR ht (fp_mt_of hM ht) h0 hT.1, r_isMissing0 hR hu (fp_mt_of hM hu) h3 hU.1, if_true, (r_areAlike (L := L) (J := J) hR ht hu (fp_mt_of hM ht) (fp_mt_of hM hu) hT.1 hT.2.1 hU.1 hU.2.1).1 h4]
  · refine ⟨S, 0, hok, fp_Cs.same fun I J hC => ?_, fp_Ms.same fun I J hM => ?_⟩
    · rw [e_X6_same]; simp only [c_isT _ ht, c_isT _ hu, fp_oI', Option.bind_some, fp_10, if_false, gr_1_0 hR, ar_2 hR ht, ar_2 hR hu, k_T (tb_t ht), k_T (tb_t hu), cond_true, c_isMissing0 (tb_t ht) (hC.1 t' ht) h0 hT.1, c_isMissing0 (tb_t hu) (hC.1 u' hu) h3 hU.1, if_true, (c_hasChancesOf (L := L) (J := J) hR (tb_t ht) (tb_t hu) (hC.1 t' ht) (hC.1 u' hu) hT.1 hT.2.1 hU.1 hU.2.1).2 h4]
    · rw [e_X7_same]; simp only [r_isT _ ht, r_isT _ hu, fp_oI', Option.bind_some, fp_10, if_false, k_45, cond_true, r_isMissing0 hR ht (fp_mt_of hM ht) h0 hT.1, r_isMissing0 hR hu (fp_mt_of hM hu) h3 hU.1, if_true, (r_areAlike (L := L) (J := J) hR ht hu (fp_mt_of hM ht) (fp_mt_of hM hu) hT.1 hT.2.1 hU.1 hU.2.1).2 h4]
end FpSame
