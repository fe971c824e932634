/-! bound, breaks -/
def fp_sv (W : Nat → Int) (q a n : Nat) : Int := fp_sz (fun x => fp_sz (fun y => W (27 * x + 9 * y + 3 * fp_dg a (n / a ^ q) x + fp_dg a (n % a ^ q) y)) q) q
theorem fp_sv_b {W : Nat → Int} (hW : ∀ k, -1000 ≤ W k ∧ W k ≤ 1000) {q : Nat} (hq : q ≤ 3) (a n : Nat) : -9000 ≤ fp_sv W q a n ∧ fp_sv W q a n ≤ 9000 := by
  have := fp_sz_b (f := fun x => fp_sz (fun y => W (27 * x + 9 * y + 3 * fp_dg a (n / a ^ q) x + fp_dg a (n % a ^ q) y)) q) (B := 3000) (fun x => by
    have := fp_sz_b (f := fun y => W (27 * x + 9 * y + 3 * fp_dg a (n / a ^ q) x + fp_dg a (n % a ^ q) y)) (B := 1000) (fun y => hW _) q
    omega) q
  unfold fp_sv
  omega
theorem fp_all : ∀ q, q ≤ 3 → ∀ x, x < q → (2 ^ q - 1) / 2 ^ x % 2 = 1 := by decide
theorem fp_gs_all (W : Nat → Int) {q : Nat} (hq : q ≤ 3) (a f y b : Nat) : fp_gs W q a (2 ^ q - 1) f y b = fp_sz (fun x => W (27 * x + 9 * y + 3 * fp_dg a f x + b)) q := fp_sz_cong q (fun x hx => if_pos (fp_all q hq x hx))
theorem fp_su4_all (W : Nat → Int) {q a : Nat} (hq : q ≤ 3) (ha : 2 ≤ a) : fp_am (fp_sv W q a) 0 (a ^ (2 * q) - 1) = fp_su4 W q a (2 ^ q - 1) := by
  have hP : 1 ≤ a ^ q := Nat.pow_pos (by omega)
  unfold fp_su4
  rw [← fp_bk_am (v := fp_sv W q a) hP (a ^ q - 1) (fun f hf => ?_)]
  · rw [show a ^ q - 1 + 1 = a ^ q by omega, ← Nat.pow_add, show q + q = 2 * q by omega]
  · unfold fp_bf
    rw [← fp_so_am _ ha]
    refine (fp_am_qs _ (fun i hi => ?_)).symm
    rw [Int.add_zero]
    have hi' : i < a ^ q := by omega
    unfold fp_sv
    rw [show (f * a ^ q + i) / a ^ q = f by rw [Nat.add_comm, Nat.add_mul_div_right _ _ hP, Nat.div_eq_of_lt hi', Nat.zero_add], show (f * a ^ q + i) % a ^ q = i by rw [Nat.add_comm, Nat.add_mul_mod_self_right, Nat.mod_eq_of_lt hi'], fp_sz_swap]
    exact fp_sz_cong q (fun y _ => (fp_gs_all W hq a f y _).symm)
section FpBound
variable {L : Nat} {R : Nat → Nat → Option Nat} {I : Nat → Nat → Int32} {J : Nat → Nat → Int64}
theorem r_weight (hR : fp_RK R) {W : Nat → Int} (hW : ∀ k, k < 81 → I 48 k = zI (W k)) {x y a b : Nat} (hx : x < 3) (hy : y < 3) (ha : a < 3) (hb : b < 3) : pm_C mX7_weight [.ref 45, .int (nI x), .int (nI y), .int (nI a), .int (nI b)] (fp_m L R I J) = some (.int (zI (W (27 * x + 9 * y + 3 * a + b))), fp_m L R I J) := by
  rw [e_X7_weight]
  simp only [gr_45_5 hR, Option.bind_some, r_place, fp_oI']
  rw [ai_48 (by omega), Option.bind_some, hW _ (by omega)]
/-- the law in hand, as the reference holds it -/
def fp_lr (I : Nat → Nat → Int32) (q a : Nat) (W : Nat → Int) : Prop := I 45 3 = nI q ∧ I 45 4 = nI a ∧ ∀ k, k < 81 → I 48 k = zI (W k)
theorem r_sureValue (hR : fp_RK R) {q a : Nat} {W : Nat → Int} (hW : ∀ k, -1000 ≤ W k ∧ W k ≤ 1000) (hl : fp_lr I q a W) (q2 : q ≤ 3) (a1 : 2 ≤ a) (a2 : a ≤ 3) {n : Nat} (hn : n < 2 ^ 31) : pm_C mX7_sureValue [.ref 45, .int (nI n)] (fp_m L R I J) = some (.long (zL (fp_sv W q a n)), fp_m L R I J) := by
  have key := fp_lp0 (fun x => pm_res mX7_sureValue 5 [(0, .ref 45), (1, .int (nI n)), (2, .long (zL (fp_sz (fun x => fp_sz (fun y => W (27 * x + 9 * y + 3 * fp_dg a (n / a ^ q) x + fp_dg a (n % a ^ q) y)) q) x))), (4, .int (nI x))] [] (fp_m L R I J)) q (fun x hx => by
    rw [e_X7_sureValue_5]
    simp only [gi_45, hl.1, Option.bind_some]
    rw [if_neg (nI_ge hx (by omega))]
    have inner := fp_lp0 (fun y => pm_res mX7_sureValue 17 [(0, .ref 45), (1, .int (nI n)), (2, .long (zL (fp_sz (fun x => fp_sz (fun y => W (27 * x + 9 * y + 3 * fp_dg a (n / a ^ q) x + fp_dg a (n % a ^ q) y)) q) x + fp_sz (fun y => W (27 * x + 9 * y + 3 * fp_dg a (n / a ^ q) x + fp_dg a (n % a ^ q) y)) y))), (4, .int (nI x)), (5, .int (nI y))] [] (fp_m L R I J)) q (fun y hy => by
      have u := fp_dg_lt (n := n / a ^ q) (x := x) a1
      have w := fp_dg_lt (n := n % a ^ q) (x := y) a1
      have r0 := r_answer (fp_m L R I J) (q := q) (a := a) (n := n) (p := 0) (x := x) q2 a1 a2 hn (by decide) (by omega)
      have r1 := r_answer (fp_m L R I J) (q := q) (a := a) (n := n) (p := 1) (x := y) q2 a1 a2 hn (by decide) (by omega)
      rw [show fp_an q a n 0 x = fp_dg a (n / a ^ q) x from if_pos rfl] at r0
      rw [show fp_an q a n 1 y = fp_dg a (n % a ^ q) y from if_neg (by decide)] at r1
      have hw := hW (27 * x + 9 * y + 3 * fp_dg a (n / a ^ q) x + fp_dg a (n % a ^ q) y)
      rw [e_X7_sureValue_17]
      simp only [gi_45, hl.1, hl.2.1, Option.bind_some]
      rw [if_neg (nI_ge hy (by omega)), show pm_C mX7_answer [.int (nI q), .int (nI a), .int (nI n), .int 0, .int (nI x)] (fp_m L R I J) = _ from r0, fp_oI']
      simp only [gi_45, hl.1, hl.2.1, Option.bind_some]
      rw [show pm_C mX7_answer [.int (nI q), .int (nI a), .int (nI n), .int 1, .int (nI y)] (fp_m L R I J) = _ from r1, fp_oI']
      simp only [Option.bind_some, k_45, cond_true]
      rw [r_weight hR hl.2.2 (by omega) (by omega) (by omega) (by omega), fp_oI', Option.bind_some]
      dsimp only
      rw [zI_l (by omega) (by omega), zL_add, nI_1, fp_sz, Int.add_assoc])
    rw [show fp_sz (fun y => W (27 * x + 9 * y + 3 * fp_dg a (n / a ^ q) x + fp_dg a (n % a ^ q) y)) 0 = 0 from rfl, Int.add_zero] at inner
    refine (show pm_res mX7_sureValue 17 [(0, .ref 45), (1, .int (nI n)), (2, .long (zL (fp_sz (fun x => fp_sz (fun y => W (27 * x + 9 * y + 3 * fp_dg a (n / a ^ q) x + fp_dg a (n % a ^ q) y)) q) x))), (4, .int (nI x)), (5, .int 0)] [] (fp_m L R I J) = _ from inner).trans ?_
    rw [e_X7_sureValue_17]
    simp only [gi_45, hl.1, Option.bind_some]
    rw [if_pos (nI_le (Nat.le_refl _) (by omega)), nI_1]
    rfl)
  rw [e_X7_sureValue]
  refine (show pm_res mX7_sureValue 5 [(0, .ref 45), (1, .int (nI n)), (2, .long 0), (4, .int 0)] [] (fp_m L R I J) = _ from key).trans ?_
  rw [e_X7_sureValue_5]
  simp only [gi_45, hl.1, Option.bind_some]
  rw [if_pos (nI_le (Nat.le_refl _) (by omega))]
  rfl
def fp_bv (A : fp_q4) (w : Nat) : Int64 := if w = 0 then zL A.1 else if w = 1 then (nI A.2.1).toInt64 else if w = 2 then (nI A.2.2.1).toInt64 else zL A.2.2.2
theorem r_bound (hR : fp_RK R) {q a : Nat} {W : Nat → Int} (hW : ∀ k, -1000 ≤ W k ∧ W k ≤ 1000) (hl : fp_lr I q a W) (q2 : q ≤ 3) (a1 : 2 ≤ a) (a2 : a ≤ 3) {w : Nat} (hw : w < 4) : pm_C mX7_bound [.ref 45, .int (nI w)] (fp_m L R I J) = some (.long (fp_bv (fp_su4 W q a (2 ^ q - 1)) w), fp_m L R I J) := by
  have hpw := fp_pw6 a2 q2
  have hpos : 0 < a ^ (2 * q) := Nat.pow_pos (by omega)
  have vb := fp_sv_b hW q2 a
  have ab := fp_am_b (v := fp_sv W q a) (z := 9000) vb 0
  have sur : pm_C mX7_sures [.ref 45] (fp_m L R I J) = some (.int (nI (a ^ (2 * q))), fp_m L R I J) := r_sures hl.1 hl.2.1 q2
  have first : pm_res mX7_bound 34 [(0, .ref 45), (1, .int (nI w)), (2, .long (zL (fp_sv W q a 0))), (4, .long (zL (fp_sv W q a 0))), (6, .int 0), (7, .int 0), (8, .int 0)] [] (fp_m L R I J) = pm_res mX7_bound 34 [(0, .ref 45), (1, .int (nI w)), (2, .long (zL (fp_sv W q a 0))), (4, .long (zL (fp_sv W q a 0))), (6, .int (nI 0)), (7, .int (nI 1)), (8, .int (nI 1))] [] (fp_m L R I J) := by
    rw [e_X7_bound_34, k_45, cond_true, sur, fp_oI', Option.bind_some]
    dsimp only
    rw [if_neg (show ¬ nI (a ^ (2 * q)) ≤ 0 from nI_nle hpos (by omega)), k_45, cond_true, show pm_C mX7_sureValue [.ref 45, .int 0] (fp_m L R I J) = _ from r_sureValue (n := 0) hR hW hl q2 a1 a2 (by decide), fp_oL', Option.bind_some]
    dsimp only
    rw [if_pos (fp_cmp_ge.mpr (Int64.le_refl _)), e_X7_bound_66, if_pos (fp_cmp_le.mpr (Int64.le_refl _)), e_X7_bound_85, if_pos (fp_cmp_eq.mpr rfl)]
    rfl
  have key := fp_lp0 (fun n => pm_res mX7_bound 34 [(0, .ref 45), (1, .int (nI w)), (2, .long (zL (fp_am (fp_sv W q a) 0 n).1)), (4, .long (zL (fp_am (fp_sv W q a) 0 n).2.2.2)), (6, .int (nI (fp_am (fp_sv W q a) 0 n).2.1)), (7, .int (nI (fp_am (fp_sv W q a) 0 n).2.2.1)), (8, .int (nI (n + 1)))] [] (fp_m L R I J)) (a ^ (2 * q) - 1) (fun n hn => by
    have g := vb (n + 1)
    have A := ab n
    rw [e_X7_bound_34, k_45, cond_true, sur, fp_oI', Option.bind_some]
    dsimp only
    rw [if_neg (nI_ge (show n + 1 < a ^ (2 * q) by omega) (by omega)), k_45, cond_true, r_sureValue (n := n + 1) hR hW hl q2 a1 a2 (by omega), fp_oL', Option.bind_some, fp_am, Nat.zero_add]
    dsimp only
    generalize fp_sv W q a (n + 1) = x at *
    generalize fp_am (fp_sv W q a) 0 n = B at *
    have le2 := zL_le (a := B.2.2.2) (b := x) (by omega) (by omega) (by omega) (by omega)
    have le1 := zL_le (a := x) (b := B.1) (by omega) (by omega) (by omega) (by omega)
    have eq1 := zL_eq (a := x) (b := B.1) (by omega) (by omega) (by omega) (by omega)
    have mid : (if 0 ≤ lg_cmp (zL x) (zL B.2.2.2) then pm_res mX7_bound 66 [(0, .ref 45), (1, .int (nI w)), (2, .long (zL B.1)), (6, .int (nI B.2.1)), (7, .int (nI B.2.2.1)), (8, .int (nI (n + 1))), (9, .long (zL x))] [.long (zL B.2.2.2)] (fp_m L R I J) else pm_res mX7_bound 66 [(0, .ref 45), (1, .int (nI w)), (2, .long (zL B.1)), (6, .int (nI B.2.1)), (7, .int (nI B.2.2.1)), (8, .int (nI (n + 1))), (9, .long (zL x))] [.long (zL x)] (fp_m L R I J)) = pm_res mX7_bound 66 [(0, .ref 45), (1, .int (nI w)), (2, .long (zL B.1)), (6, .int (nI B.2.1)), (7, .int (nI B.2.2.1)), (8, .int (nI (n + 1))), (9, .long (zL x))] [.long (zL (min B.2.2.2 x))] (fp_m L R I J) := by
      by_cases h : B.2.2.2 ≤ x
      · rw [if_pos (fp_cmp_ge.mpr (le2.mpr h)), Int.min_eq_left h]
      · rw [if_neg (fun q => h (le2.mp (fp_cmp_ge.mp q))), Int.min_eq_right (by omega)]
    rw [mid, e_X7_bound_66]
    rcases fp_tri B.1 x with h | h | h
    · rw [if_neg (fun q => by have := le1.mp (fp_cmp_le.mp q); omega), e_X7_bound_85, if_pos (fp_cmp_eq.mpr rfl), fp_cm_lt (A := B) (B := (x, n + 1, 1, x)) h, nI_1]
      rfl
    · rw [if_pos (fp_cmp_le.mpr (le1.mpr (by omega))), e_X7_bound_85, if_pos (fp_cmp_eq.mpr (eq1.mpr h.symm)), fp_cm_eq (A := B) (B := (x, n + 1, 1, x)) h, nI_1, nI_1]
    · rw [if_pos (fp_cmp_le.mpr (le1.mpr (by omega))), e_X7_bound_85, if_neg (fun q => by have := eq1.mp (fp_cmp_eq.mp q); omega), fp_cm_gt (A := B) (B := (x, n + 1, 1, x)) h, nI_1, Int32.add_zero])
  rw [e_X7_bound, r_isIn1 _ (fp_isIn1 (w := w) (k := 3) (by omega) (show (w : Int) ≤ 3 by omega)), fp_oI', Option.bind_some]
  simp only [fp_10, if_false, k_45, cond_true]
  rw [show pm_C mX7_sureValue [.ref 45, .int 0] (fp_m L R I J) = _ from r_sureValue (n := 0) hR hW hl q2 a1 a2 (by decide), fp_oL', Option.bind_some]
  dsimp only
  rw [first]
  refine (show pm_res mX7_bound 34 [(0, .ref 45), (1, .int (nI w)), (2, .long (zL (fp_sv W q a 0))), (4, .long (zL (fp_sv W q a 0))), (6, .int (nI 0)), (7, .int (nI 1)), (8, .int (nI 1))] [] (fp_m L R I J) = _ from key).trans ?_
  rw [e_X7_bound_34, k_45, cond_true, sur, fp_oI', Option.bind_some]
  dsimp only
  rw [if_pos (nI_le (show a ^ (2 * q) ≤ a ^ (2 * q) - 1 + 1 by omega) (by omega)), fp_su4_all W q2 a1]
  unfold fp_bv
  rcases (by omega : w = 0 ∨ w = 1 ∨ w = 2 ∨ w = 3) with rfl | rfl | rfl | rfl <;> rfl
theorem c_allQ {q : Nat} (h0 : I 34 0 = nI q) (q2 : q ≤ 3) : pm_C mX3_allQuestions [.ref 34] (fp_m L R I J) = some (.int (nI (2 ^ q - 1)), fp_m L R I J) := by
  have hpos : 0 < 2 ^ q := Nat.pow_pos (by omega)
  rw [e_X3_allQuestions]
  simp only [gi_34, h0, Option.bind_some]
  rw [show pm_C mX6_power [.int 2, .int (nI q)] (fp_m L R I J) = _ from c_power _ 2 q (by omega), fp_oI', Option.bind_some]
  dsimp only
  rw [ns_1 hpos]
theorem c_lawS {S : fp_S} (hok : fp_ok S) (hC : fp_CR S I) {I' : Nat → Nat → Int32} (h0 : I' 34 0 = I 34 0) (h1 : I' 34 1 = I 34 1) (h : ∀ i, i ≠ 34 → i ≠ 36 → I' i = I i) : fp_CR S I' := c_lawR hok hC (fun i g1 g2 => h i (by omega) (by omega)) (by rw [h0]; exact hC.2.2.1.1) (by rw [h1]; exact hC.2.2.1.2.1) (fun k hk => by rw [h 35 (by decide) (by decide)]; exact hC.2.2.1.2.2 k hk) (fp_shC_cong hC.2.2.2 (h 37 (by decide) (by decide)) (h 38 (by decide) (by decide)) (h 39 (by decide) (by decide)))
theorem fp_pw2 : ∀ q, q ≤ 3 → 2 ^ q - 1 < 8 := by decide
theorem b_bound (hR : fp_RK R) (w : Int32) : fp_Both L R mX6_bound mX7_bound [.int w] := by
  intro S hok
  obtain ⟨q1, q2, q3, q4, q5, q6⟩ := hok.2.2.1
  by_cases h2 : 0 ≤ w.toInt ∧ w.toInt < 4
  case neg =>
    refine ⟨S, pm_BAD, hok, fp_Cs.same fun I J hC => ?_, fp_Ms.same fun I J hM => ?_⟩
    · rw [e_X6_bound]
      by_cases h3 : w < 0
      · rw [if_pos h3]
      · rw [if_neg h3, if_neg]
        simp only [Int32.lt_iff_toInt_lt, Int32.le_iff_toInt_le] at h3 ⊢
        simp at h3 ⊢
        omega
    · rw [e_X7_bound, r_isIn0 _ (fp_isIn0 (n := 3) (by decide) h2), fp_oI']
      rfl
  obtain ⟨w', hw, rfl⟩ := fp_nat (k := 4) h2.1 h2.2 (by decide)
  refine ⟨S, fp_bv (fp_su4 S.2.2.2.2.1 S.2.2.1 S.2.2.2.1 (2 ^ S.2.2.1 - 1)) w', hok, fun I J hC => ?_, fp_Ms.same fun I J hM => r_bound hR q5 ⟨hM.2.2.1.1, hM.2.2.1.2.1, hM.2.2.1.2.2⟩ q2 q3 q4 hw⟩
  obtain ⟨I1, c1, ⟨c2, c3, c4, c5⟩, c6, c7, c8⟩ := c_survey (L := L) (J := J) hR q5 (show fp_lw I S.2.2.1 S.2.2.2.1 S.2.2.2.2.1 from ⟨hC.2.2.1.1, hC.2.2.1.2.1, hC.2.2.1.2.2⟩) q2 q3 q4 (fp_pw2 _ q2)
  refine ⟨I1, J, ?_, c_lawS hok hC c6 c7 c8, fun i hi => c8 i (by omega) (by omega)⟩
  have bb := fp_bk_b (B := fp_bf S.2.2.2.2.1 S.2.2.1 S.2.2.2.1 (2 ^ S.2.2.1 - 1)) (z := 9000) (fp_bf_b q5 q2 _ _) (S.2.2.2.1 ^ S.2.2.1 - 1)
  rw [show fp_bk (fp_bf S.2.2.2.2.1 S.2.2.1 S.2.2.2.1 (2 ^ S.2.2.1 - 1)) (S.2.2.2.1 ^ S.2.2.1 - 1) = fp_su4 S.2.2.2.2.1 S.2.2.1 S.2.2.2.1 (2 ^ S.2.2.1 - 1) from rfl] at bb
  rw [e_X6_bound, if_neg (nI_pos (by omega)), if_pos (fp_leR (by omega) (by decide))]
  simp only [gr_1_2 hR, Option.bind_some, k_34, cond_true, c_allQ hC.2.2.1.1 q2, fp_oI', c1, fp_oV', gi_34, c2, c3, c4, c5]
  unfold fp_bv
  rcases (by omega : w' = 0 ∨ w' = 1 ∨ w' = 2 ∨ w' = 3) with rfl | rfl | rfl | rfl
  · rw [if_pos (show nI 0 = 0 from rfl), if_pos rfl, zI_l (by omega) (by omega)]
  · rfl
  · rfl
  · rw [if_neg (by decide), if_neg (by decide), if_neg (by decide), if_neg (by decide), if_neg (by decide), if_neg (by decide), zI_l (by omega) (by omega)]
theorem b_breaks (hR : fp_RK R) (t : Int32) : fp_Both L R mX6_breaks mX7_breaks [.int t] := by
  intro S hok
  obtain ⟨q1, q2, q3, q4, q5, q6⟩ := hok.2.2.1
  by_cases h1 : 0 ≤ t.toInt ∧ t.toInt < 8
  case neg =>
    refine ⟨S, pm_BAD, hok, fp_Cs.same fun I J hC => ?_, fp_Ms.same fun I J hM => ?_⟩
    · rw [e_X6_breaks, c_isT0 _ h1, fp_oI']; rfl
    · rw [e_X7_breaks, r_isT0 _ h1, fp_oI']; rfl
  obtain ⟨t', ht, rfl⟩ := fp_nat (k := 8) h1.1 h1.2 (by decide)
  have hT := fp_okT_q (hok.1 t' ht)
  by_cases h4 : fp_fit S (S.1 t')
  case neg =>
    refine ⟨S, pm_NO, hok, fp_Cs.same fun I J hC => ?_, fp_Ms.same fun I J hM => ?_⟩
    · rw [e_X6_breaks]
      simp only [c_isT _ ht, fp_oI', Option.bind_some, fp_10, if_false, gr_1_0 hR, gr_1_2 hR, ar_2 hR ht, k_34, cond_true, c_fits hok hC ht, fp_b_f h4, if_true]
    · rw [e_X7_breaks]
      simp only [r_isT _ ht, fp_oI', Option.bind_some, fp_10, if_false, k_45, cond_true, r_fits hR hok hM ht, fp_b_f h4, if_true]
  have bb := fp_bk_b (B := fp_bf S.2.2.2.2.1 S.2.2.1 S.2.2.2.1 (2 ^ S.2.2.1 - 1)) (z := 9000) (fp_bf_b q5 q2 _ _) (S.2.2.2.1 ^ S.2.2.1 - 1)
  rw [show fp_bk (fp_bf S.2.2.2.2.1 S.2.2.1 S.2.2.2.1 (2 ^ S.2.2.1 - 1)) (S.2.2.2.1 ^ S.2.2.1 - 1) = fp_su4 S.2.2.2.2.1 S.2.2.1 S.2.2.2.1 (2 ^ S.2.2.1 - 1) from rfl] at bb
  refine ⟨S, if zL (fp_va S.2.2.2.2.1 (S.1 t').2.2.2) ≤ zL (fp_su4 S.2.2.2.2.1 S.2.2.1 S.2.2.2.1 (2 ^ S.2.2.1 - 1)).1 * (nI (S.1 t').2.2.1).toInt64 then 0 else 1, hok, fun I J hC => ?_, fp_Ms.same fun I J hM => ?_⟩
  · obtain ⟨I1, c1, ⟨c2, c3, c4, c5⟩, c6, c7, c8⟩ := c_survey (L := L) (J := J) hR q5 (show fp_lw I S.2.2.1 S.2.2.2.1 S.2.2.2.2.1 from ⟨hC.2.2.1.1, hC.2.2.1.2.1, hC.2.2.1.2.2⟩) q2 q3 q4 (fp_pw2 _ q2)
    have hC1 := c_lawS hok hC c6 c7 c8
    refine ⟨I1, J, ?_, hC1, fun i hi => c8 i (by omega) (by omega)⟩
    rw [e_X6_breaks]
    simp only [c_isT _ ht, fp_oI', fp_oL', Option.bind_some, fp_10, if_false, gr_1_0 hR, gr_1_2 hR, ar_2 hR ht, k_34, cond_true, c_fits hok hC ht, fp_b_t h4, c_allQ hC.2.2.1.1 q2, c1, fp_oV', c_sumAt hR hok hC1 ht, gi_34, c2, gi_T (tb_t ht), (hC1.1 t' ht).2.2.1, fp_cmp_le]
    rw [zI_l (by omega) (by omega)]
    split <;> rfl
  · rw [e_X7_breaks]
    simp only [r_isT _ ht, fp_oI', fp_oL', Option.bind_some, fp_10, if_false, k_45, cond_true, r_fits hR hok hM ht, fp_b_t h4, r_valueOf hR hok hM ht]
    rw [show pm_C mX7_bound [.ref 45, .int 0] (fp_m L R I J) = _ from r_bound (w := 0) hR q5 ⟨hM.2.2.1.1, hM.2.2.1.2.1, hM.2.2.1.2.2⟩ q2 q3 q4 (by decide), fp_oL']
    simp only [Option.bind_some, k_45, cond_true, r_whole hR ht (fp_mt_of hM ht), fp_oI', fp_cmp_le]
    rw [show fp_bv (fp_su4 S.2.2.2.2.1 S.2.2.1 S.2.2.2.1 (2 ^ S.2.2.1 - 1)) 0 = zL (fp_su4 S.2.2.2.2.1 S.2.2.1 S.2.2.2.1 (2 ^ S.2.2.1 - 1)).1 from rfl]
    split <;> rfl
end FpBound
