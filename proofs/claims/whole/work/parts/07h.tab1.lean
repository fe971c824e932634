/-! shape, lose, undo, cell, chance -/
theorem fp_okT_0 : fp_okT (0, 0, 0, fun _ => 0) := Or.inl ⟨rfl, rfl, rfl, fun _ => rfl⟩
theorem fp_okT_new {q a w : Nat} (h1 : 1 ≤ q) (h2 : q ≤ 3) (h3 : 2 ≤ a) (h4 : a ≤ 3) (h5 : 1 ≤ w) (h6 : w ≤ 1000000) : fp_okT (q, a, w, fun _ => 0) := Or.inr ⟨h1, h2, h3, h4, h5, h6, fun _ => Nat.zero_le _, fun _ _ => rfl⟩
theorem fp_okT_q {T : fp_T} (h : fp_okT T) : T.1 ≤ 3 ∧ T.2.1 ≤ 3 ∧ T.2.2.1 ≤ 1000000 ∧ ∀ j, T.2.2.2 j ≤ T.2.2.1 := by
  rcases h with ⟨h1, h2, h3, h4⟩ | ⟨h1, h2, h3, h4, h5, h6, h7, h8⟩
  · exact ⟨by omega, by omega, by omega, fun j => by rw [h4 j]; omega⟩
  · exact ⟨h2, h4, h6, h7⟩
section FpT1
variable {L : Nat} {R : Nat → Nat → Option Nat}
theorem fp_natL {t : Int32} {j k : Nat} (h0 : (j : Int) ≤ t.toInt) (h1 : t.toInt ≤ k) (hk : k < 2 ^ 31) : ∃ n, j ≤ n ∧ n ≤ k ∧ t = nI n := by
  refine ⟨t.toInt.toNat, by omega, by omega, ?_⟩
  apply Int32.toInt_inj.mp
  rw [nI_toInt (by omega)]
  omega
theorem b_shape (hR : fp_RK R) (t q a w : Int32) : fp_Both L R mX6_shape mX7_shape [.int t, .int q, .int a, .int w] := by
  intro S hok
  by_cases h1 : 0 ≤ t.toInt ∧ t.toInt < 8
  case neg =>
    refine ⟨S, pm_BAD, hok, fp_Cs.same fun I J hC => ?_, fp_Ms.same fun I J hM => ?_⟩
    · rw [e_X6_shape, c_isTable, fp_oI']; simp only [Option.bind_some, fp_b_0]; rw [if_pos h1]
    · rw [e_X7_shape, r_isTable, fp_oI']; simp only [Option.bind_some, fp_b_0]; rw [if_pos h1]
  by_cases h2 : (1 ≤ q.toInt ∧ q.toInt < 4) ∧ 2 ≤ a.toInt ∧ a.toInt < 4
  case neg =>
    refine ⟨S, pm_BAD, hok, fp_Cs.same fun I J hC => ?_, fp_Ms.same fun I J hM => ?_⟩
    · rw [e_X6_shape, c_isTable, fp_oI']; simp only [Option.bind_some, fp_b_0]; rw [if_neg (not_not_intro h1), c_isShape, fp_oI']; simp only [Option.bind_some, fp_b_0]; rw [if_pos h2]
    · rw [e_X7_shape, r_isTable, fp_oI']; simp only [Option.bind_some, fp_b_0]; rw [if_neg (not_not_intro h1), r_isShape, fp_oI']; simp only [Option.bind_some, fp_b_0]; rw [if_pos h2]
  by_cases h3 : 1 ≤ w.toInt ∧ w.toInt ≤ 1000000
  case neg =>
    refine ⟨S, pm_BAD, hok, fp_Cs.same fun I J hC => ?_, fp_Ms.same fun I J hM => ?_⟩
    · rw [e_X6_shape, c_isTable, fp_oI']; simp only [Option.bind_some, fp_b_0]; rw [if_neg (not_not_intro h1), c_isShape, fp_oI']; simp only [Option.bind_some, fp_b_0]; rw [if_neg (not_not_intro h2)]
      by_cases h4 : w < 1
      · rw [if_pos h4]
      · rw [if_neg h4, if_neg]
        intro h5
        simp only [Int32.lt_iff_toInt_lt, Int32.le_iff_toInt_le] at h4 h5
        simp at h4 h5
        omega
    · rw [e_X7_shape, r_isTable, fp_oI']; simp only [Option.bind_some, fp_b_0]; rw [if_neg (not_not_intro h1), r_isShape, fp_oI']; simp only [Option.bind_some, fp_b_0]; rw [if_neg (not_not_intro h2), r_isIn, fp_oI']; simp only [Option.bind_some, fp_b_0]; rw [if_pos]
      simp
      simp at h3
      exact h3
  obtain ⟨t', ht, rfl⟩ := fp_nat (k := 8) h1.1 h1.2 (by decide)
  obtain ⟨q', hq1, hq2, rfl⟩ := fp_natL (t := q) (j := 1) (k := 3) (by omega) (by omega) (by decide)
  obtain ⟨a', ha1, ha2, rfl⟩ := fp_natL (t := a) (j := 2) (k := 3) (by omega) (by omega) (by decide)
  obtain ⟨w', hw1, hw2, rfl⟩ := fp_natL (t := w) (j := 1) (k := 1000000) (by omega) (by omega) (by decide)
  refine ⟨fp_chg S t' (q', a', w', fun _ => 0), (nI q' * nI q' * nI a' * nI a').toInt64, fp_chg_ok hok ht (fp_okT_new hq1 hq2 ha1 ha2 hw1 hw2), fun I J hC => ?_, fun I J hM => ?_⟩
  · obtain ⟨I1, c1, c2, c3⟩ := c_changing (L := L) (J := J) hR ht (hC.1 t' ht) hC.2.1 hok.2.1.1
    obtain ⟨I2, d1, d2, d3⟩ := c_restart (I := I1) (L := L) (J := J) hR (tb_t ht) q' a' w'
    obtain ⟨f1, f2⟩ := c_chg hok hC ht c2 c3 d2 (fun i a b _ => d3 i a b)
    refine ⟨I2, J, ?_, f1, f2⟩
    rw [e_X6_shape, c_isTable, fp_oI']; simp only [Option.bind_some, fp_b_0]; rw [if_neg (not_not_intro h1), c_isShape, fp_oI']; simp only [Option.bind_some, fp_b_0]; rw [if_neg (not_not_intro h2), if_neg, if_pos]
    · simp only [k_1, cond_true, c1, fp_oR', Option.bind_some, k_T (tb_t ht), d1, fp_oV']
    · simp only [Int32.le_iff_toInt_le]; simp; omega
    · simp only [Int32.lt_iff_toInt_lt]; simp; omega
  · obtain ⟨I1, c1, c2, c3, c4, c5⟩ := r_keep (L := L) (J := J) hR hok.2.1.1 hM.1 hM.2.1.1 hM.2.1.2
    obtain ⟨I2, d1, d2, d3⟩ := r_empty (I := I1) (L := L) (J := J) hR ht q' a' w'
    obtain ⟨f1, f2⟩ := r_chg hok hM ht (T := (q', a', w', fun _ => 0)) c2 c3 c4 c5 (fun i hi => by rw [d2 i hi, c4 46 (by decide) (by decide)]) (fun i a _ => d3 i a)
    refine ⟨I2, J, ?_, f1, f2⟩
    rw [e_X7_shape, r_isTable, fp_oI']; simp only [Option.bind_some, fp_b_0]; rw [if_neg (not_not_intro h1), r_isShape, fp_oI']; simp only [Option.bind_some, fp_b_0]; rw [if_neg (not_not_intro h2), r_isIn, fp_oI']; simp only [Option.bind_some, fp_b_0]; rw [if_neg]
    · simp only [k_45, cond_true, c1, fp_oV', Option.bind_some, d1]
    · simp
      omega
end FpT1
