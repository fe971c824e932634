/-! count -/
section FpCount
variable {L : Nat} {R : Nat → Nat → Option Nat} {I : Nat → Nat → Int32} {J : Nat → Nat → Int64}
def fp_th (S : fp_S) (t : Nat) : Bool := decide ((S.1 t).1 ≠ 0)
theorem c_there (hR : fp_RK R) {S : fp_S} (hok : fp_ok S) (hC : fp_CR S I) : pm_C mX6_tablesThere [.ref 1] (fp_m L R I J) = some (.int (nI (fp_cn (fp_th S) 8)), fp_m L R I J) := by
  have key := fp_lp0 (fun i => pm_res mX6_tablesThere 4 [(0, .ref 1), (1, .int (nI (fp_cn (fp_th S) i))), (2, .int (nI i))] [] (fp_m L R I J)) 8 (fun i hi => by
    rw [e_X6_tablesThere_4, if_neg (fp_ge hi (by decide))]
    simp only [gr_1_0 hR, Option.bind_some, ar_2 hR hi, k_T (tb_t hi), cond_true, nI_1, fp_cn]
    unfold fp_th
    by_cases h0 : (S.1 i).1 = 0
    · rw [c_isMissing (tb_t hi) (hC.1 i hi) h0, fp_oI', if_neg (by simp [h0])]
      rfl
    · rw [c_isMissing0 (tb_t hi) (hC.1 i hi) h0 (fp_okT_q (hok.1 i hi)).1, fp_oI', if_pos (by simp [h0])]
      rfl)
  rw [e_X6_tablesThere]
  refine (show pm_res mX6_tablesThere 4 [(0, .ref 1), (1, .int 0), (2, .int 0)] [] (fp_m L R I J) = _ from key).trans ?_
  rw [e_X6_tablesThere_4, if_pos (fp_le (Nat.le_refl _) (by decide))]
theorem r_there (hR : fp_RK R) {S : fp_S} (hok : fp_ok S) (hM : fp_MR S I) : pm_res mX7_count 42 [(0, .ref 45), (2, .int 0), (3, .int 0)] [] (fp_m L R I J) = some (.long (nI (fp_cn (fp_th S) 8)).toInt64, fp_m L R I J) := by
  have key := fp_lp0 (fun i => pm_res mX7_count 42 [(0, .ref 45), (2, .int (nI (fp_cn (fp_th S) i))), (3, .int (nI i))] [] (fp_m L R I J)) 8 (fun i hi => by
    rw [e_X7_count_42, if_neg (fp_ge hi (by decide)), k_45, cond_true]
    simp only [nI_1, fp_cn]
    unfold fp_th
    by_cases h0 : (S.1 i).1 = 0
    · rw [r_isMissing hR hi (fp_mt_of hM hi) h0, fp_oI', if_neg (by simp [h0]), Int32.add_zero]
      rfl
    · rw [r_isMissing0 hR hi (fp_mt_of hM hi) h0 (fp_okT_q (hok.1 i hi)).1, fp_oI', if_pos (by simp [h0])]
      rfl)
  refine (show pm_res mX7_count 42 [(0, .ref 45), (2, .int 0), (3, .int 0)] [] (fp_m L R I J) = _ from key).trans ?_
  rw [e_X7_count_42, if_pos (fp_le (Nat.le_refl _) (by decide))]
theorem r_weights (hR : fp_RK R) : pm_res mX7_count 92 [(0, .ref 45), (2, .int 0), (3, .int 0)] [] (fp_m L R I J) = some (.long (nI (fp_cn (fun j => decide (I 48 j ≠ 0)) 81)).toInt64, fp_m L R I J) := by
  have key := fp_lp0 (fun i => pm_res mX7_count 92 [(0, .ref 45), (2, .int (nI (fp_cn (fun j => decide (I 48 j ≠ 0)) i))), (3, .int (nI i))] [] (fp_m L R I J)) 81 (fun i hi => by
    rw [e_X7_count_92, if_neg (fp_ge hi (by decide))]
    simp only [gr_45_5 hR, Option.bind_some, ai_48 hi, nI_1, fp_cn]
    by_cases h0 : I 48 i = 0
    · rw [if_pos h0, if_neg (by simp [h0]), Int32.add_zero]
      rfl
    · rw [if_neg h0, if_pos (by simp [h0])])
  refine (show pm_res mX7_count 92 [(0, .ref 45), (2, .int 0), (3, .int 0)] [] (fp_m L R I J) = _ from key).trans ?_
  rw [e_X7_count_92, if_pos (fp_le (Nat.le_refl _) (by decide))]
theorem b_count (hR : fp_RK R) (w : Int32) : fp_Both L R mX6_count mX7_count [.int w] := by
  intro S hok
  obtain ⟨q1, q2, q3, q4, q5, q6⟩ := hok.2.2.1
  obtain ⟨s1, s2⟩ := hok.2.2.2
  refine ⟨S, if w = 0 then (nI (fp_cn (fp_th S) 8)).toInt64 else if w = 1 then (nI (fp_sm (fp_nz S.2.2.2.2.2) 729)).toInt64 else if w = 2 then lN (fp_sm S.2.2.2.2.2 729) else if w = 3 then (nI S.2.1.length).toInt64 else if w = 4 then (nI (fp_cn (fun j => decide (Int32.ofInt (S.2.2.2.2.1 j) ≠ 0)) 81)).toInt64 else if w = 5 then (nI (S.2.2.2.1 ^ (2 * S.2.2.1))).toInt64 else pm_BAD, hok, fp_Cs.same fun I J hC => ?_, fp_Ms.same fun I J hM => ?_⟩
  · have e4 : fp_cn (fun j => decide (I 35 j ≠ 0)) 81 = fp_cn (fun j => decide (Int32.ofInt (S.2.2.2.2.1 j) ≠ 0)) 81 := fp_cn_cong 81 (fun j hj => by rw [hC.2.2.1.2.2 j hj])
    obtain ⟨nx, -, -, r3, -⟩ := hC.2.1
    rw [e_X6_count]
    by_cases h0 : w = 0
    · rw [if_pos h0, if_pos h0, k_1, cond_true, c_there hR hok hC, fp_oI']; rfl
    rw [if_neg h0, if_neg h0]
    by_cases h1 : w = 1
    · rw [if_pos h1, if_pos h1]
      simp only [gr_1_3 hR, Option.bind_some, gi_37, (fp_sh_many hC.2.2.2).2]
    rw [if_neg h1, if_neg h1]
    by_cases h2 : w = 2
    · rw [if_pos h2, if_pos h2]
      simp only [gr_1_3 hR, Option.bind_some, k_37, cond_true, c_together hR hC.2.2.2 s1, fp_oL']
    rw [if_neg h2, if_neg h2]
    by_cases h3 : w = 3
    · rw [if_pos h3, if_pos h3]
      simp only [gr_1_1 hR, Option.bind_some, gi_19, r3]
    rw [if_neg h3, if_neg h3]
    by_cases h4 : w = 4
    · rw [if_pos h4, if_pos h4]
      simp only [gr_1_2 hR, gr_34_2 hR, Option.bind_some]
      rw [c_count (M := fp_m L R I J) (n := 81) rfl (by decide), fp_oI', ← e4]
      rfl
    rw [if_neg h4, if_neg h4]
    by_cases h5 : w = 5
    · rw [if_pos h5, if_pos h5]
      simp only [gr_1_2 hR, Option.bind_some, k_34, cond_true, c_sures hC.2.2.1.1 hC.2.2.1.2.1 q2, fp_oI']
    rw [if_neg h5, if_neg h5]
  · have e4 : fp_cn (fun j => decide (I 48 j ≠ 0)) 81 = fp_cn (fun j => decide (Int32.ofInt (S.2.2.2.2.1 j) ≠ 0)) 81 := fp_cn_cong 81 (fun j hj => by rw [hM.2.2.1.2.2 j hj])
    rw [e_X7_count]
    by_cases h0 : w = 0
    · rw [if_pos h0, if_pos h0, r_there hR hok hM]
    rw [if_neg h0, if_neg h0]
    by_cases h1 : w = 1
    · rw [if_pos h1, if_pos h1, k_45, cond_true, r_many hR hM.2.2.2 s1, fp_oI']; rfl
    rw [if_neg h1, if_neg h1]
    by_cases h2 : w = 2
    · rw [if_pos h2, if_pos h2, k_45, cond_true, r_all hR hM.2.2.2 s1, fp_oL']; rfl
    rw [if_neg h2, if_neg h2]
    by_cases h3 : w = 3
    · rw [if_pos h3, if_pos h3]
      simp only [gi_45, Option.bind_some, hM.2.1.1]
    rw [if_neg h3, if_neg h3]
    by_cases h4 : w = 4
    · rw [if_pos h4, if_pos h4, r_weights hR, e4]
    rw [if_neg h4, if_neg h4]
    by_cases h5 : w = 5
    · rw [if_pos h5, if_pos h5, k_45, cond_true, r_sures hM.2.2.1.1 hM.2.2.1.2.1 q2, fp_oI']; rfl
    rw [if_neg h5, if_neg h5]
end FpCount
