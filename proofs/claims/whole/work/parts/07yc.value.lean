/-! value -/
def fp_sz (f : Nat → Int) : Nat → Int
  | 0 => 0
  | n + 1 => fp_sz f n + f n
theorem fp_sz_b {f : Nat → Int} {B : Nat} (h : ∀ i, -(B : Int) ≤ f i ∧ f i ≤ B) : ∀ n : Nat, -((n * B : Nat) : Int) ≤ fp_sz f n ∧ fp_sz f n ≤ ((n * B : Nat) : Int)
  | 0 => by simp [fp_sz]
  | n + 1 => by
    have h1 := fp_sz_b h n
    have h2 := h n
    rw [fp_sz, Nat.succ_mul]
    omega
theorem fp_sz_cong {f g : Nat → Int} : ∀ n, (∀ i, i < n → f i = g i) → fp_sz f n = fp_sz g n
  | 0, _ => rfl
  | n + 1, h => by rw [fp_sz, fp_sz, fp_sz_cong n (fun i hi => h i (by omega)), h n (by omega)]
theorem fp_mul_b {x y : Int} {A B : Nat} (h1 : -(A : Int) ≤ x) (h2 : x ≤ A) (h3 : 0 ≤ y) (h4 : y ≤ B) : -((A * B : Nat) : Int) ≤ x * y ∧ x * y ≤ ((A * B : Nat) : Int) := by
  have e1 : x * y ≤ (A : Int) * y := Int.mul_le_mul_of_nonneg_right h2 h3
  have e2 : (A : Int) * y ≤ (A : Int) * B := Int.mul_le_mul_of_nonneg_left h4 (by omega)
  have e3 : -(A : Int) * y ≤ x * y := Int.mul_le_mul_of_nonneg_right h1 h3
  have e4 : -((A : Int) * B) ≤ -(A : Int) * y := by rw [Int.neg_mul]; omega
  have e5 : ((A * B : Nat) : Int) = (A : Int) * B := by simp
  omega
/-- the law's value, times the whole -/
def fp_va (W : Nat → Int) (c : Nat → Nat) : Int := fp_sz (fun k => W k * (c k : Int)) 81
theorem fp_va_b {W : Nat → Int} {c : Nat → Nat} (hW : ∀ k, -1000 ≤ W k ∧ W k ≤ 1000) (hc : ∀ k, c k ≤ 1000000) : -81000000000 ≤ fp_va W c ∧ fp_va W c ≤ 81000000000 := by
  have := fp_sz_b (f := fun k => W k * (c k : Int)) (B := 1000 * 1000000) (fun k => fp_mul_b (A := 1000) (B := 1000000) (hW k).1 (hW k).2 (by omega) (by have := hc k; omega)) 81
  unfold fp_va
  omega
abbrev fp_fit (S : fp_S) (T : fp_T) : Prop := T.1 = S.2.2.1 ∧ T.2.1 = S.2.2.2.1
section FpValue
variable {L : Nat} {R : Nat → Nat → Option Nat} {I : Nat → Nat → Int32} {J : Nat → Nat → Int64}
theorem c_fits {S : fp_S} (hok : fp_ok S) (hC : fp_CR S I) {t : Nat} (ht : t < 8) : pm_C mX3_fits [.ref 34, .ref (3 + 2 * t)] (fp_m L R I J) = some (.int (fp_b (fp_fit S (S.1 t))), fp_m L R I J) := by
  have hT := fp_okT_q (hok.1 t ht)
  obtain ⟨q1, q2, q3, q4, q5, q6⟩ := hok.2.2.1
  rw [e_X3_fits]
  simp only [gi_T (tb_t ht), gi_34, hC.2.2.1.1, hC.2.2.1.2.1, (hC.1 t ht).1, (hC.1 t ht).2.1, Option.bind_some]
  by_cases e1 : (S.1 t).1 = S.2.2.1
  · rw [if_pos (by rw [e1])]
    by_cases e2 : (S.1 t).2.1 = S.2.2.2.1
    · rw [if_pos (by rw [e2]), fp_b_t ⟨e1, e2⟩]
    · rw [if_neg (by rw [nI_eq (by omega) (by omega)]; exact e2), fp_b_f (fun g => e2 g.2)]
  · rw [if_neg (by rw [nI_eq (by omega) (by omega)]; exact e1), fp_b_f (fun g => e1 g.1)]
theorem r_fits (hR : fp_RK R) {S : fp_S} (hok : fp_ok S) (hM : fp_MR S I) {t : Nat} (ht : t < 8) : pm_C mX7_fits [.ref 45, .int (nI t)] (fp_m L R I J) = some (.int (fp_b (fp_fit S (S.1 t))), fp_m L R I J) := by
  have hT := fp_okT_q (hok.1 t ht)
  obtain ⟨q1, q2, q3, q4, q5, q6⟩ := hok.2.2.1
  rw [e_X7_fits, k_45, cond_true]
  by_cases h0 : (S.1 t).1 = 0
  · rw [r_isMissing hR ht (fp_mt_of hM ht) h0, fp_oI', fp_b_f (fun g => by have := g.1; omega)]
    simp only [Option.bind_some, fp_10, if_false]
  · rw [r_isMissing0 hR ht (fp_mt_of hM ht) h0 hT.1, fp_oI']
    simp only [Option.bind_some, if_true, k_45, cond_true, r_q hR ht (fp_mt_of hM ht), r_a hR ht (fp_mt_of hM ht), fp_oI', gi_45, hM.2.2.1.1, hM.2.2.1.2.1]
    by_cases e1 : (S.1 t).1 = S.2.2.1
    · rw [if_pos (by rw [e1])]
      by_cases e2 : (S.1 t).2.1 = S.2.2.2.1
      · rw [if_pos (by rw [e2]), fp_b_t ⟨e1, e2⟩]
      · rw [if_neg (by rw [nI_eq (by omega) (by omega)]; exact e2), fp_b_f (fun g => e2 g.2)]
    · rw [if_neg (by rw [nI_eq (by omega) (by omega)]; exact e1), fp_b_f (fun g => e1 g.1)]
theorem c_sumAt (hR : fp_RK R) {S : fp_S} (hok : fp_ok S) (hC : fp_CR S I) {t : Nat} (ht : t < 8) : pm_C mX3_sumAt [.ref 34, .ref (3 + 2 * t)] (fp_m L R I J) = some (.long (zL (fp_va S.2.2.2.2.1 (S.1 t).2.2.2)), fp_m L R I J) := by
  have hT := fp_okT_q (hok.1 t ht)
  have q5 := hok.2.2.1.2.2.2.2.1
  have key := fp_lp0 (fun i => pm_res mX3_sumAt 5 [(0, .ref 34), (1, .ref (3 + 2 * t)), (2, .long (zL (fp_sz (fun k => S.2.2.2.2.1 k * ((S.1 t).2.2.2 k : Int)) i))), (4, .int (nI i))] [] (fp_m L R I J)) 81 (fun i hi => by
    have hc := hT.2.2.2 i
    have hw := q5 i
    show pm_res mX3_sumAt 5 [(0, .ref 34), (1, .ref (3 + 2 * t)), (2, .long (zL (fp_sz (fun k => S.2.2.2.2.1 k * ((S.1 t).2.2.2 k : Int)) i))), (4, .int (nI i))] [] (fp_m L R I J) = pm_res mX3_sumAt 5 [(0, .ref 34), (1, .ref (3 + 2 * t)), (2, .long (zL (fp_sz (fun k => S.2.2.2.2.1 k * ((S.1 t).2.2.2 k : Int)) (i + 1)))), (4, .int (nI (i + 1)))] [] (fp_m L R I J)
    rw [e_X3_sumAt_5, if_neg (fp_ge hi (by decide))]
    simp only [gr_34_2 hR, gr_T hR (tb_t ht), Option.bind_some, ai_35 hi, ai_T (tb_t ht) hi, hC.2.2.1.2.2 i hi, (hC.1 t ht).2.2.2 i hi, nI_1]
    rw [zI_l (by omega) (by omega), nI_l (by omega), zL_n, zL_mul, zL_add]
    rfl)
  rw [e_X3_sumAt]
  refine (show pm_res mX3_sumAt 5 [(0, .ref 34), (1, .ref (3 + 2 * t)), (2, .long 0), (4, .int 0)] [] (fp_m L R I J) = _ from key).trans ?_
  rw [e_X3_sumAt_5, if_pos (fp_le (Nat.le_refl _) (by decide))]
  rfl
theorem r_valueOf (hR : fp_RK R) {S : fp_S} (hok : fp_ok S) (hM : fp_MR S I) {t : Nat} (ht : t < 8) : pm_C mX7_valueOf [.ref 45, .int (nI t)] (fp_m L R I J) = some (.long (zL (fp_va S.2.2.2.2.1 (S.1 t).2.2.2)), fp_m L R I J) := by
  have hT := fp_okT_q (hok.1 t ht)
  have q5 := hok.2.2.1.2.2.2.2.1
  have key := fp_lp0 (fun i => pm_res mX7_valueOf 5 [(0, .ref 45), (1, .int (nI t)), (2, .long (zL (fp_sz (fun k => S.2.2.2.2.1 k * ((S.1 t).2.2.2 k : Int)) i))), (4, .int (nI i))] [] (fp_m L R I J)) 81 (fun i hi => by
    have hc := hT.2.2.2 i
    have hw := q5 i
    show pm_res mX7_valueOf 5 [(0, .ref 45), (1, .int (nI t)), (2, .long (zL (fp_sz (fun k => S.2.2.2.2.1 k * ((S.1 t).2.2.2 k : Int)) i))), (4, .int (nI i))] [] (fp_m L R I J) = pm_res mX7_valueOf 5 [(0, .ref 45), (1, .int (nI t)), (2, .long (zL (fp_sz (fun k => S.2.2.2.2.1 k * ((S.1 t).2.2.2 k : Int)) (i + 1)))), (4, .int (nI (i + 1)))] [] (fp_m L R I J)
    rw [e_X7_valueOf_5, if_neg (fp_ge hi (by decide))]
    simp only [gr_45_5 hR, gr_45_0 hR, Option.bind_some, ai_48 hi, hM.2.2.1.2.2 i hi, nm_84, na_3, nI_add, nI_1]
    rw [r_cell hR ht hi (fp_mt_of hM ht), Option.bind_some, zI_l (by omega) (by omega), nI_l (by omega), zL_n, zL_mul, zL_add]
    rfl)
  rw [e_X7_valueOf]
  refine (show pm_res mX7_valueOf 5 [(0, .ref 45), (1, .int (nI t)), (2, .long 0), (4, .int 0)] [] (fp_m L R I J) = _ from key).trans ?_
  rw [e_X7_valueOf_5, if_pos (fp_le (Nat.le_refl _) (by decide))]
  rfl
theorem b_value (hR : fp_RK R) (t p : Int32) : fp_Both L R mX6_value mX7_value [.int t, .int p] := by
  intro S hok
  by_cases h1 : 0 ≤ t.toInt ∧ t.toInt < 8
  case neg =>
    refine ⟨S, pm_BAD, hok, fp_Cs.same fun I J hC => ?_, fp_Ms.same fun I J hM => ?_⟩
    · rw [e_X6_value, c_isT0 _ h1, fp_oI']; rfl
    · rw [e_X7_value, r_isT0 _ h1, fp_oI']; rfl
  obtain ⟨t', ht, rfl⟩ := fp_nat (k := 8) h1.1 h1.2 (by decide)
  have hT := fp_okT_q (hok.1 t' ht)
  by_cases h3 : 0 ≤ p.toInt ∧ p.toInt < 2
  case neg =>
    refine ⟨S, pm_BAD, hok, fp_Cs.same fun I J hC => ?_, fp_Ms.same fun I J hM => ?_⟩
    · rw [e_X6_value]
      simp only [c_isT _ ht, fp_oI', Option.bind_some, fp_10, if_false]
      rw [c_isPart, fp_b_f h3, fp_oI']
      rfl
    · rw [e_X7_value]
      simp only [r_isT _ ht, fp_oI', Option.bind_some, fp_10, if_false]
      rw [r_isIn0 _ (fp_isIn0 (n := 1) (by decide) h3), fp_oI']
      rfl
  obtain ⟨p', hp, rfl⟩ := fp_nat (k := 2) h3.1 h3.2 (by decide)
  have hin := fp_isIn1 (w := p') (k := 1) (by omega) (show (p' : Int) ≤ 1 by omega)
  by_cases h4 : fp_fit S (S.1 t')
  case neg =>
    refine ⟨S, pm_NO, hok, fp_Cs.same fun I J hC => ?_, fp_Ms.same fun I J hM => ?_⟩
    · rw [e_X6_value]
      simp only [c_isT _ ht, fp_oI', Option.bind_some, fp_10, if_false]
      rw [c_isPart, fp_b_t h3, fp_oI']
      simp only [fp_oI', Option.bind_some, fp_10, if_false, gr_1_0 hR, gr_1_2 hR, ar_2 hR ht, k_34, cond_true, c_fits hok hC ht, fp_b_f h4, if_true]
    · rw [e_X7_value]
      simp only [r_isT _ ht, fp_oI', Option.bind_some, fp_10, if_false, r_isIn1 _ hin, k_45, cond_true, r_fits hR hok hM ht, fp_b_f h4, if_true]
  have q := hok.2.2.1
  have h0 : (S.1 t').1 ≠ 0 := by rw [h4.1]; omega
  have ho := fp_okT_1 (hok.1 t' ht) h0
  have vb := fp_va_b (W := S.2.2.2.2.1) (c := (S.1 t').2.2.2) q.2.2.2.2.1 (fun k => Nat.le_trans (hT.2.2.2 k) hT.2.2.1)
  refine ⟨S, fp_frac (fp_va S.2.2.2.2.1 (S.1 t').2.2.2) (S.1 t').2.2.1 (nI p'), hok, fp_Cs.same fun I J hC => ?_, fp_Ms.same fun I J hM => ?_⟩
  · rw [e_X6_value]
    simp only [c_isT _ ht, fp_oI', Option.bind_some, fp_10, if_false]
    rw [c_isPart, fp_b_t h3, fp_oI']
    simp only [fp_oI', fp_oL', Option.bind_some, fp_10, if_false, gr_1_0 hR, gr_1_2 hR, ar_2 hR ht, k_34, cond_true, c_fits hok hC ht, fp_b_t h4, c_sumAt hR hok hC ht, gi_T (tb_t ht), (hC.1 t' ht).2.2.1]
    rw [nI_l (by omega), c_fraction _ (by omega) (by omega) (by omega) (by omega), fp_oL']
    rfl
  · rw [e_X7_value]
    simp only [r_isT _ ht, fp_oI', fp_oL', Option.bind_some, fp_10, if_false, r_isIn1 _ hin, k_45, cond_true, r_fits hR hok hM ht, fp_b_t h4, r_valueOf hR hok hM ht, r_whole hR ht (fp_mt_of hM ht)]
    rw [nI_l (by omega), r_part _ (by omega) (by omega) (by omega) (by omega), fp_oL']
    rfl
end FpValue
