/-! cell, about, same -/
theorem fp_leR {n i : Nat} (h : i ≤ OfNat.ofNat n) (hn : n < 2 ^ 31) : nI i ≤ (OfNat.ofNat n : Int32) := nI_le h hn
theorem fp_nleR {n i : Nat} (h : OfNat.ofNat n < i) (hi : i < 2 ^ 31) : ¬ (nI i ≤ (OfNat.ofNat n : Int32)) := nI_ge h hi
theorem fp_ltR {n i : Nat} (h : i < OfNat.ofNat n) (hn : n < 2 ^ 31) : nI i < (OfNat.ofNat n : Int32) := nI_lt h hn
theorem fp_nltR {n i : Nat} (h : OfNat.ofNat n ≤ i) (hi : i < 2 ^ 31) : ¬ (nI i < (OfNat.ofNat n : Int32)) := nI_nlt h hi
theorem fp_ltL {n i : Nat} (h : OfNat.ofNat n < i) (hi : i < 2 ^ 31) : (OfNat.ofNat n : Int32) < nI i := nI_lt h hi
theorem fp_nltL {n i : Nat} (h : i ≤ OfNat.ofNat n) (hn : n < 2 ^ 31) : ¬ ((OfNat.ofNat n : Int32) < nI i) := nI_nlt h hn
theorem fp_eqR {n i : Nat} (h : i = OfNat.ofNat n) : nI i = (OfNat.ofNat n : Int32) := by rw [h]; rfl
def fp_cn (f : Nat → Bool) : Nat → Nat
  | 0 => 0
  | n + 1 => fp_cn f n + (if f n then 1 else 0)
theorem fp_cn_le (f : Nat → Bool) : ∀ n, fp_cn f n ≤ n
  | 0 => Nat.le_refl _
  | n + 1 => by
    have := fp_cn_le f n
    unfold fp_cn
    split <;> omega
theorem fp_cn_cong {f g : Nat → Bool} : ∀ n, (∀ i, i < n → f i = g i) → fp_cn f n = fp_cn g n
  | 0, _ => rfl
  | n + 1, h => by
    unfold fp_cn
    rw [fp_cn_cong n (fun i hi => h i (by omega)), h n (by omega)]
theorem c_count {M : pm_M} {r n : Nat} (h : M.1[r]? = some (8, n)) (hn : n < 2 ^ 31) : pm_C mX6_countNotZero [.ref r] M = some (.int (nI (fp_cn (fun j => decide (M.2.2.1 r j ≠ 0)) n)), M) := by
  have hal : pm_al M r = some (nI n) := by unfold pm_al; rw [h]; rfl
  rw [e_X6_countNotZero]
  have key := fp_lp0 (fun i => pm_res mX6_countNotZero 4 [(0, .ref r), (1, .int (nI (fp_cn (fun j => decide (M.2.2.1 r j ≠ 0)) i))), (2, .int (nI i))] [] M) n (fun i hi => by
    rw [e_X6_countNotZero_4, hal]
    simp only [Option.bind_some]
    rw [if_neg (nI_ge hi (by omega)), fp_aI h hi hn]
    simp only [Option.bind_some]
    by_cases h0 : M.2.2.1 r i = 0
    · rw [if_pos h0, nI_1]
      simp only [fp_cn]
      rw [if_neg (by simp [h0])]
      rfl
    · rw [if_neg h0, nI_1, nI_1]
      simp only [fp_cn]
      rw [if_pos (by simp [h0])])
  refine (show pm_res mX6_countNotZero 4 [(0, .ref r), (1, .int 0), (2, .int 0)] [] M = _ from key).trans ?_
  rw [e_X6_countNotZero_4, hal]
  simp only [Option.bind_some]
  rw [if_pos (nI_le (Nat.le_refl _) hn)]
section FpT3
variable {L : Nat} {R : Nat → Nat → Option Nat}
theorem fp_in_row {q a x y : Nat} (x1 : x < 9) (x2 : x / 3 < q) (x3 : x % 3 < q) (y1 : y < 9) (y2 : y / 3 < a) (y3 : y % 3 < a) : fp_in q a (9 * x + y) := by
  refine ⟨by omega, ?_, ?_, ?_, ?_⟩
  · rw [show (9 * x + y) / 27 = x / 3 by omega]; exact x2
  · rw [show (9 * x + y) / 9 = x by omega]; exact x3
  · rw [show (9 * x + y) / 3 % 3 = y / 3 by omega]; exact y2
  · rw [show (9 * x + y) % 3 = y % 3 by omega]; exact y3
theorem b_cell (hR : fp_RK R) (t x y v : Int32) : fp_Both L R mX6_cell mX7_cell [.int t, .int x, .int y, .int v] := by
  intro S hok
  by_cases h1 : 0 ≤ t.toInt ∧ t.toInt < 8
  case neg =>
    refine ⟨S, pm_BAD, hok, fp_Cs.same fun I J hC => ?_, fp_Ms.same fun I J hM => ?_⟩
    · rw [e_X6_cell, c_isT0 _ h1, fp_oI']; rfl
    · rw [e_X7_cell, k_45, cond_true, r_asked0 h1, fp_oL']; rfl
  obtain ⟨t', ht, rfl⟩ := fp_nat (k := 8) h1.1 h1.2 (by decide)
  have hT := fp_okT_q (hok.1 t' ht)
  by_cases h0 : (S.1 t').1 = 0
  · refine ⟨S, pm_NO, hok, fp_Cs.same fun I J hC => ?_, fp_Ms.same fun I J hM => ?_⟩
    · rw [e_X6_cell]
      simp only [c_isT _ ht, fp_oI', Option.bind_some, fp_10, if_false, gr_1_0 hR, ar_2 hR ht, k_T (tb_t ht), cond_true, c_isMissing (tb_t ht) (hC.1 t' ht) h0]
    · rw [e_X7_cell, k_45, cond_true, r_asked1 hR ht (fp_mt_of hM ht) h0, fp_oL']; rfl
  · by_cases h2 : fp_rowb x (S.1 t').1 ∧ fp_rowb y (S.1 t').2.1
    case neg =>
      refine ⟨S, pm_BAD, hok, fp_Cs.same fun I J hC => ?_, fp_Ms.same fun I J hM => ?_⟩
      · rw [e_X6_cell]
        simp only [c_isT _ ht, fp_oI', Option.bind_some, fp_10, if_false, gr_1_0 hR, ar_2 hR ht, k_T (tb_t ht), cond_true, c_isMissing0 (tb_t ht) (hC.1 t' ht) h0 hT.1, if_true, c_hasRows0 (tb_t ht) (hC.1 t' ht) hT.1 hT.2.1 h2]
      · rw [e_X7_cell, k_45, cond_true, r_asked2 hR ht (fp_mt_of hM ht) h0 hT.1, fp_oL']
        simp only [Option.bind_some, fp_cmp_eq, if_true, k_45, cond_true, r_q hR ht (fp_mt_of hM ht), fp_oI']
        by_cases h3 : fp_rowb x (S.1 t').1
        · simp only [r_isPair _ hT.1 h3, fp_oI', Option.bind_some, fp_10, if_false, k_45, cond_true, r_a hR ht (fp_mt_of hM ht), r_isPair0 _ hT.2.1 (fun q => h2 ⟨h3, q⟩), if_true]
        · simp only [r_isPair0 _ hT.1 h3, fp_oI', Option.bind_some, if_true]
    · by_cases h4 : 0 ≤ v.toInt ∧ v.toInt ≤ ((S.1 t').2.2.1 : Int)
      case neg =>
        refine ⟨S, pm_BAD, hok, fp_Cs.same fun I J hC => ?_, fp_Ms.same fun I J hM => ?_⟩
        · rw [e_X6_cell]
          simp only [c_isT _ ht, fp_oI', Option.bind_some, fp_10, if_false, gr_1_0 hR, ar_2 hR ht, k_T (tb_t ht), cond_true, c_isMissing0 (tb_t ht) (hC.1 t' ht) h0 hT.1, if_true, c_hasRows (tb_t ht) (hC.1 t' ht) hT.1 hT.2.1 h2.1 h2.2, gi_T (tb_t ht), (hC.1 t' ht).2.2.1]
          by_cases h5 : v < 0
          · rw [if_pos h5]
          · rw [if_neg h5, if_neg]
            intro h6
            simp only [Int32.lt_iff_toInt_lt, Int32.le_iff_toInt_le] at h5 h6
            rw [nI_toInt (by omega)] at h6
            simp at h5
            exact h4 ⟨h5, h6⟩
        · rw [e_X7_cell, k_45, cond_true, r_asked2 hR ht (fp_mt_of hM ht) h0 hT.1, fp_oL']
          simp only [Option.bind_some, fp_cmp_eq, if_true, k_45, cond_true, r_q hR ht (fp_mt_of hM ht), fp_oI', r_isPair _ hT.1 h2.1, r_isPair _ hT.2.1 h2.2, r_a hR ht (fp_mt_of hM ht), r_whole hR ht (fp_mt_of hM ht), fp_10, if_false]
          rw [r_isIn0 _ (by rw [fp_w, fp_w, nI_toInt (by omega)]; exact h4), fp_oI']
          rfl
      · obtain ⟨v', v1, v2, rfl⟩ := fp_natL (t := v) (j := 0) (k := (S.1 t').2.2.1) (by omega) (by omega) (by omega)
        obtain ⟨x', x1, x2, x3, rfl⟩ := fp_rowb_of h2.1
        obtain ⟨y', y1, y2, y3, rfl⟩ := fp_rowb_of h2.2
        have hin := fp_in_row x1 x2 x3 y1 y2 y3
        refine ⟨fp_chg S t' ((S.1 t').1, (S.1 t').2.1, (S.1 t').2.2.1, va_up (S.1 t').2.2.2 (9 * x' + y') v'), (nI ((S.1 t').2.2.2 (9 * x' + y'))).toInt64, fp_chg_ok hok ht ?_, fun I J hC => ?_, fun I J hM => ?_⟩
        · rcases hok.1 t' ht with q | ⟨q1, q2, q3, q4, q5, q6, q7, q8⟩
          · exact absurd q.1 h0
          · refine Or.inr ⟨q1, q2, q3, q4, q5, q6, fun j => ?_, fun j hj => ?_⟩
            · show va_up (S.1 t').2.2.2 (9 * x' + y') v' j ≤ _
              by_cases e : j = 9 * x' + y'
              · rw [e, pm_up_same]; exact v2
              · rw [pm_up_other _ _ e]; exact q7 j
            · show va_up (S.1 t').2.2.2 (9 * x' + y') v' j = 0
              have e : j ≠ 9 * x' + y' := fun e => hj (by rw [e]; exact hin)
              rw [pm_up_other _ _ e]
              exact q8 j hj
        · obtain ⟨I1, c1, c2, c3⟩ := c_changing (L := L) (J := J) hR ht (hC.1 t' ht) hC.2.1 hok.2.1.1
          have hat : fp_at I1 (3 + 2 * t') (S.1 t') := fp_at_cong (hC.1 t' ht) (c3 _ (by omega)) (c3 _ (by omega))
          have d2 : fp_at (va_up I1 (3 + 2 * t' + 1) (va_up (I1 (3 + 2 * t' + 1)) (9 * x' + y') (nI v'))) (3 + 2 * t') ((S.1 t').1, (S.1 t').2.1, (S.1 t').2.2.1, va_up (S.1 t').2.2.2 (9 * x' + y') v') := by
            refine ⟨?_, ?_, ?_, fun j hj => ?_⟩
            · rw [pm_up_other _ _ (by omega)]; exact hat.1
            · rw [pm_up_other _ _ (by omega)]; exact hat.2.1
            · rw [pm_up_other _ _ (by omega)]; exact hat.2.2.1
            · rw [pm_up_same]
              show _ = nI (va_up (S.1 t').2.2.2 (9 * x' + y') v' j)
              by_cases e : j = 9 * x' + y'
              · rw [e, pm_up_same, pm_up_same]
              · rw [pm_up_other _ _ e, pm_up_other _ _ e]; exact hat.2.2.2 j hj
          obtain ⟨f1, f2⟩ := c_chg hok hC ht c2 c3 d2 (fun i a b _ => pm_up_other _ _ b)
          refine ⟨_, J, ?_, f1, f2⟩
          rw [e_X6_cell]
          simp only [c_isT _ ht, fp_oI', Option.bind_some, fp_10, if_false, gr_1_0 hR, ar_2 hR ht, k_T (tb_t ht), cond_true, c_isMissing0 (tb_t ht) (hC.1 t' ht) h0 hT.1, if_true, c_hasRows (tb_t ht) (hC.1 t' ht) hT.1 hT.2.1 h2.1 h2.2, gi_T (tb_t ht), (hC.1 t' ht).2.2.1, gr_T hR (tb_t ht), nm_9, nI_add]
          rw [if_neg (nI_pos (by omega)), if_pos (nI_le v2 (by omega)), ai_T (tb_t ht) (by omega), (hC.1 t' ht).2.2.2 _ (by omega)]
          simp only [Option.bind_some, k_1, cond_true, c1, fp_oR', gr_T hR (tb_t ht)]
          rw [si_T (tb_t ht) (by omega)]
          rfl
        · obtain ⟨I1, c1, c2, c3, c4, c5⟩ := r_keep (L := L) (J := J) hR hok.2.1.1 hM.1 hM.2.1.1 hM.2.1.2
          have hmt := fp_mt_of hM ht
          have e46 : I1 46 = I 46 := c4 46 (by decide) (by decide)
          obtain ⟨f1, f2⟩ := r_chg (I2 := va_up I1 46 (va_up (I1 46) (84 * t' + 3 + (9 * x' + y')) (nI v'))) hok hM ht (T := ((S.1 t').1, (S.1 t').2.1, (S.1 t').2.2.1, va_up (S.1 t').2.2.2 (9 * x' + y') v')) c2 c3 c4 c5 (fun i hi => by
            rw [pm_up_same, e46]
            by_cases e : i / 84 = t'
            · rw [if_pos e]
              have hi2 := hmt (i % 84) (by omega)
              rw [show 84 * t' + i % 84 = i by omega] at hi2
              by_cases e2 : i = 84 * t' + 3 + (9 * x' + y')
              · rw [e2, pm_up_same, show (84 * t' + 3 + (9 * x' + y')) % 84 = 3 + (9 * x' + y') by omega, fp_rw3]
                show _ = nI (va_up (S.1 t').2.2.2 (9 * x' + y') v' (9 * x' + y'))
                rw [pm_up_same]
              · rw [pm_up_other _ _ e2, hi2]
                unfold fp_rw
                dsimp only
                by_cases e0 : i % 84 = 0
                · rw [if_pos e0, if_pos e0]
                · rw [if_neg e0, if_neg e0]
                  by_cases e1 : i % 84 = 1
                  · rw [if_pos e1, if_pos e1]
                  · rw [if_neg e1, if_neg e1]
                    by_cases e3 : i % 84 = 2
                    · rw [if_pos e3, if_pos e3]
                    · rw [if_neg e3, if_neg e3, pm_up_other _ _ (by omega)]
            · rw [if_neg e, pm_up_other _ _ (by omega)]) (fun i a _ => pm_up_other _ _ a)
          refine ⟨_, J, ?_, f1, f2⟩
          rw [e_X7_cell, k_45, cond_true, r_asked2 hR ht (fp_mt_of hM ht) h0 hT.1, fp_oL']
          simp only [Option.bind_some, fp_cmp_eq, if_true, k_45, cond_true, r_q hR ht hmt, fp_oI', r_isPair _ hT.1 h2.1, r_isPair _ hT.2.1 h2.2, r_a hR ht hmt, r_whole hR ht hmt, fp_10, if_false]
          rw [r_isIn1 _ (by rw [fp_w, fp_w, nI_toInt (by omega), nI_toInt (by omega)]; exact ⟨by show (0 : Int) ≤ _; omega, by omega⟩), fp_oI']
          simp only [Option.bind_some, fp_10, if_false, c1, fp_oV', gr_45_0 hR, nm_84, na_3, nm_9, nI_add]
          rw [show 84 * t' + 3 + 9 * x' + y' = 84 * t' + 3 + (9 * x' + y') by omega, r_cell hR ht (by omega) (T := S.1 t') (fun o ho => by rw [e46]; exact hmt o ho), Option.bind_some, si_46 (by omega)]
          rfl
theorem r_about_loop (hR : fp_RK R) {I : Nat → Nat → Int32} {J : Nat → Nat → Int64} {t : Nat} (ht : t < 8) {T : fp_T} (h : fp_mt I t T) : pm_res mX7_about 58 [(0, .ref 45), (1, .int (nI t)), (3, .int 0), (4, .int 0)] [] (fp_m L R I J) = some (.long (nI (fp_cn (fun j => decide (nI (T.2.2.2 j) ≠ 0)) 81)).toInt64, fp_m L R I J) := by
  have key := fp_lp0 (fun i => pm_res mX7_about 58 [(0, .ref 45), (1, .int (nI t)), (3, .int (nI (fp_cn (fun j => decide (nI (T.2.2.2 j) ≠ 0)) i))), (4, .int (nI i))] [] (fp_m L R I J)) 81 (fun i hi => by
    rw [e_X7_about_58, if_neg (fp_ge hi (by decide))]
    simp only [gr_45_0 hR, Option.bind_some, nm_84, na_3, nI_add]
    rw [r_cell hR ht hi h]
    simp only [Option.bind_some]
    by_cases h0 : nI (T.2.2.2 i) = 0
    · rw [if_pos h0, nI_1, Int32.add_zero]
      simp only [fp_cn]
      rw [if_neg (by simp [h0])]
      rfl
    · rw [if_neg h0, nI_1, nI_1]
      simp only [fp_cn]
      rw [if_pos (by simp [h0])])
  refine (show pm_res mX7_about 58 [(0, .ref 45), (1, .int (nI t)), (3, .int 0), (4, .int 0)] [] (fp_m L R I J) = _ from key).trans ?_
  rw [e_X7_about_58, if_pos (fp_le (Nat.le_refl _) (by decide))]
theorem b_about (hR : fp_RK R) (t w : Int32) : fp_Both L R mX6_about mX7_about [.int t, .int w] := by
  intro S hok
  by_cases h1 : 0 ≤ t.toInt ∧ t.toInt < 8
  case neg =>
    refine ⟨S, pm_BAD, hok, fp_Cs.same fun I J hC => ?_, fp_Ms.same fun I J hM => ?_⟩
    · rw [e_X6_about, c_isT0 _ h1, fp_oI']; rfl
    · rw [e_X7_about, r_isT0 _ h1, fp_oI']; rfl
  obtain ⟨t', ht, rfl⟩ := fp_nat (k := 8) h1.1 h1.2 (by decide)
  have hT := fp_okT_q (hok.1 t' ht)
  by_cases h2 : 0 ≤ w.toInt ∧ w.toInt < 4
  case neg =>
    refine ⟨S, pm_BAD, hok, fp_Cs.same fun I J hC => ?_, fp_Ms.same fun I J hM => ?_⟩
    · rw [e_X6_about]
      simp only [c_isT _ ht, fp_oI', Option.bind_some, fp_10, if_false]
      by_cases h3 : w < 0
      · rw [if_pos h3]
      · rw [if_neg h3, if_neg]
        intro h4
        simp only [Int32.lt_iff_toInt_lt, Int32.le_iff_toInt_le] at h3 h4
        simp at h3 h4
        omega
    · rw [e_X7_about]
      simp only [r_isT _ ht, fp_oI', Option.bind_some, fp_10, if_false]
      rw [r_isIn0 _ (by rw [fp_w]; intro q; exact h2 ⟨q.1, by have := q.2; change _ ≤ (3 : Int) at this; omega⟩), fp_oI']
      rfl
  obtain ⟨w', hw, rfl⟩ := fp_nat (k := 4) h2.1 h2.2 (by decide)
  have hin : (0 : Int64).toInt ≤ (nI w').toInt64.toInt ∧ (nI w').toInt64.toInt ≤ (3 : Int64).toInt := by
    rw [fp_w, nI_toInt (by omega)]
    exact ⟨by show (0 : Int) ≤ _; omega, by show _ ≤ (3 : Int); omega⟩
  by_cases h0 : (S.1 t').1 = 0
  · refine ⟨S, pm_NO, hok, fp_Cs.same fun I J hC => ?_, fp_Ms.same fun I J hM => ?_⟩
    · rw [e_X6_about]
      simp only [c_isT _ ht, fp_oI', Option.bind_some, fp_10, if_false]
      rw [if_neg (nI_pos (by omega)), if_pos (fp_leR (by omega) (by decide))]
      simp only [gr_1_0 hR, ar_2 hR ht, Option.bind_some, k_T (tb_t ht), cond_true, c_isMissing (tb_t ht) (hC.1 t' ht) h0, fp_oI', fp_10, if_false]
    · rw [e_X7_about]
      simp only [r_isT _ ht, fp_oI', Option.bind_some, fp_10, if_false, r_isIn1 _ hin, k_45, cond_true, r_isMissing hR ht (fp_mt_of hM ht) h0]
  · refine ⟨S, (if w' < 3 then fp_rw (S.1 t') w' else nI (fp_cn (fun j => decide (nI ((S.1 t').2.2.2 j) ≠ 0)) 81)).toInt64, hok, fp_Cs.same fun I J hC => ?_, fp_Ms.same fun I J hM => ?_⟩
    · rw [e_X6_about]
      simp only [c_isT _ ht, fp_oI', Option.bind_some, fp_10, if_false]
      rw [if_neg (nI_pos (by omega)), if_pos (fp_leR (by omega) (by decide))]
      simp only [gr_1_0 hR, ar_2 hR ht, Option.bind_some, k_T (tb_t ht), cond_true, c_isMissing0 (tb_t ht) (hC.1 t' ht) h0 hT.1, fp_oI', if_true, gi_T (tb_t ht), (hC.1 t' ht).1, (hC.1 t' ht).2.1, (hC.1 t' ht).2.2.1, gr_T hR (tb_t ht)]
      rw [c_count (M := fp_m L R I J) (n := 81) (fp_tb_sh (tb_t ht)).2 (by decide), fp_oI']
      rcases (by omega : w' = 0 ∨ w' = 1 ∨ w' = 2 ∨ w' = 3) with rfl | rfl | rfl | rfl
      · rfl
      · rfl
      · rfl
      · simp only [Option.bind_some]
        rw [if_neg (by decide), if_neg (by decide), if_neg (by decide), if_neg (by omega)]
        rw [show fp_cn (fun j => decide ((fp_m L R I J).2.2.1 (3 + 2 * t' + 1) j ≠ 0)) 81 = fp_cn (fun j => decide (nI ((S.1 t').2.2.2 j) ≠ 0)) 81 from fp_cn_cong 81 (fun j hj => by
          show decide (I (3 + 2 * t' + 1) j ≠ 0) = _
          rw [(hC.1 t' ht).2.2.2 j hj])]
    · rw [e_X7_about]
      simp only [r_isT _ ht, fp_oI', Option.bind_some, fp_10, if_false, r_isIn1 _ hin, k_45, cond_true, r_isMissing0 hR ht (fp_mt_of hM ht) h0 hT.1, if_true]
      by_cases h3 : w' < 3
      · rw [if_neg (fp_ge h3 (by decide)), if_pos h3]
        simp only [gr_45_0 hR, Option.bind_some, nm_84, nI_add]
        rw [ai_46 (by omega), fp_mt_of hM ht w' (by omega)]
        rfl
      · rw [if_pos (fp_le (by omega) (by omega)), if_neg h3, r_about_loop hR ht (fp_mt_of hM ht)]
end FpT3
