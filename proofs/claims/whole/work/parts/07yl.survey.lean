/-! the class's survey of a law -/
def fp_gs (W : Nat → Int) (q a m f y b : Nat) : Int := fp_sz (fun x => if m / 2 ^ x % 2 = 1 then W (27 * x + 9 * y + 3 * fp_dg a f x + b) else 0) q
theorem fp_gs_b {W : Nat → Int} (hW : ∀ k, -1000 ≤ W k ∧ W k ≤ 1000) {q : Nat} (hq : q ≤ 3) (a m f y b : Nat) : -((3000 : Nat) : Int) ≤ fp_gs W q a m f y b ∧ fp_gs W q a m f y b ≤ ((3000 : Nat) : Int) := by
  have := fp_sz_b (f := fun x => if m / 2 ^ x % 2 = 1 then W (27 * x + 9 * y + 3 * fp_dg a f x + b) else 0) (B := 1000) (fun i => by
    have := hW (27 * i + 9 * y + 3 * fp_dg a f i + b)
    split <;> omega) q
  unfold fp_gs
  omega
theorem fp_bit : ∀ m, m < 8 → ∀ x, x < 3 → ((((nI m >>> (nI x &&& 31)) &&& 1) = 1) ↔ m / 2 ^ x % 2 = 1) := by decide
theorem fp_pmin {x y : Int} (x1 : -2147483648 ≤ x) (x2 : x < 2147483648) (y1 : -2147483648 ≤ y) (y2 : y < 2147483648) : pm_min (zI x) (zI y) = zI (min x y) := by
  unfold pm_min
  by_cases h : y < x
  · rw [if_pos ((zI_lt y1 y2 x1 x2).mpr h), Int.min_eq_right (by omega)]
  · rw [if_neg (fun q => h ((zI_lt y1 y2 x1 x2).mp q)), Int.min_eq_left (by omega)]
def fp_of (I : Nat → Nat → Int32) (S : fp_q4) : Prop := I 34 7 = zI S.1 ∧ I 34 8 = nI S.2.1 ∧ I 34 9 = nI S.2.2.1 ∧ I 34 10 = zI S.2.2.2
def fp_sf4 (I : Nat → Nat → Int32) (B : fp_q4) : Prop := I 34 3 = zI B.1 ∧ I 34 4 = nI B.2.1 ∧ I 34 5 = nI B.2.2.1 ∧ I 34 6 = zI B.2.2.2
def fp_bf (W : Nat → Int) (q a m f : Nat) : fp_q4 := fp_qs 0 (f * a ^ q) (fp_so (fp_gs W q a m f) a q)
def fp_su4 (W : Nat → Int) (q a m : Nat) : fp_q4 := fp_bk (fp_bf W q a m) (a ^ q - 1)
/-- the law in hand, as the class holds it -/
def fp_lw (I : Nat → Nat → Int32) (q a : Nat) (W : Nat → Int) : Prop := I 34 0 = nI q ∧ I 34 1 = nI a ∧ ∀ k, k < 81 → I 35 k = zI (W k)
theorem fp_bf_b {W : Nat → Int} (hW : ∀ k, -1000 ≤ W k ∧ W k ≤ 1000) {q : Nat} (hq : q ≤ 3) (a m f : Nat) : (-9000 ≤ (fp_bf W q a m f).1 ∧ (fp_bf W q a m f).1 ≤ 9000) ∧ -9000 ≤ (fp_bf W q a m f).2.2.2 ∧ (fp_bf W q a m f).2.2.2 ≤ 9000 := by
  have := fp_so_b (h := fp_gs W q a m f) (z := 3000) (fun y b => fp_gs_b hW hq a m f y b) a q
  unfold fp_bf fp_qs
  dsimp only
  omega
section FpSurvey
variable {L : Nat} {R : Nat → Nat → Option Nat} {I : Nat → Nat → Int32} {J : Nat → Nat → Int64}
theorem c_sumOfFirst (hR : fp_RK R) {q a : Nat} {W : Nat → Int} (hl : fp_lw I q a W) (q2 : q ≤ 3) (a1 : 2 ≤ a) (a2 : a ≤ 3) {m f y b : Nat} (hm : m < 8) (hy : y < 3) (hb : b < 3) (hF : ∀ x, x < q → I 36 x = nI (fp_dg a f x)) : pm_C mX3_sumOfFirst [.ref 34, .int (nI y), .int (nI b), .int (nI m)] (fp_m L R I J) = some (.int (zI (fp_gs W q a m f y b)), fp_m L R I J) := by
  have key := fp_lp0 (fun x => pm_res mX3_sumOfFirst 6 [(0, .ref 34), (1, .int (nI y)), (2, .int (nI b)), (3, .int (nI m)), (4, .int (zI (fp_sz (fun x => if m / 2 ^ x % 2 = 1 then W (27 * x + 9 * y + 3 * fp_dg a f x + b) else 0) x))), (5, .int (nI x))] [] (fp_m L R I J)) q (fun x hx => by
    have u := fp_dg_lt (n := f) (x := x) a1
    rw [e_X3_sumOfFirst_6]
    simp only [gi_34, hl.1, Option.bind_some]
    rw [if_neg (nI_ge hx (by omega)), fp_sz]
    by_cases h : m / 2 ^ x % 2 = 1
    · rw [if_pos ((fp_bit m hm x (by omega)).mpr h), if_pos h]
      simp only [gr_34_2 hR, gr_34_11 hR, Option.bind_some]
      rw [ai_36 (by omega), Option.bind_some, hF x hx, c_spot, fp_oI']
      simp only [Option.bind_some]
      rw [ai_35 (by omega), Option.bind_some, hl.2.2 _ (by omega), zI_add, nI_1]
    · rw [if_neg (fun g => h ((fp_bit m hm x (by omega)).mp g)), if_neg h, Int.add_zero, nI_1])
  rw [e_X3_sumOfFirst]
  refine (show pm_res mX3_sumOfFirst 6 [(0, .ref 34), (1, .int (nI y)), (2, .int (nI b)), (3, .int (nI m)), (4, .int 0), (5, .int 0)] [] (fp_m L R I J) = _ from key).trans ?_
  rw [e_X3_sumOfFirst_6]
  simp only [gi_34, hl.1, Option.bind_some]
  rw [if_pos (nI_le (Nat.le_refl _) (by omega))]
  rfl
theorem c_surveyQ (hR : fp_RK R) {q a : Nat} {W : Nat → Int} (hW : ∀ k, -1000 ≤ W k ∧ W k ≤ 1000) (hl : fp_lw I q a W) (q2 : q ≤ 3) (a1 : 2 ≤ a) (a2 : a ≤ 3) {m f y P : Nat} (hm : m < 8) (hy : y < 3) (hF : ∀ x, x < q → I 36 x = nI (fp_dg a f x)) {S : fp_q4} (hS : fp_of I S) : ∃ I', pm_C mX3_surveyQuestion [.ref 34, .int (nI y), .int (nI m), .int (nI P)] (fp_m L R I J) = some (.null, fp_m L R I' J) ∧ fp_of I' (fp_qm P S (fp_am (fp_gs W q a m f y) 0 (a - 1))) ∧ (∀ k, k < 7 → I' 34 k = I 34 k) ∧ ∀ i, i ≠ 34 → I' i = I i := by
  have gb := fun b => fp_gs_b hW q2 a m f y b
  have ab := fp_am_b (v := fp_gs W q a m f y) (z := ((3000 : Nat) : Int)) gb 0
  have key := fp_lp0 (fun n => pm_res mX3_surveyQuestion 22 [(0, .ref 34), (1, .int (nI y)), (2, .int (nI m)), (3, .int (nI P)), (4, .int (zI (fp_am (fp_gs W q a m f y) 0 n).1)), (5, .int (zI (fp_am (fp_gs W q a m f y) 0 n).2.2.2)), (6, .int (nI (fp_am (fp_gs W q a m f y) 0 n).2.1)), (7, .int (nI (fp_am (fp_gs W q a m f y) 0 n).2.2.1)), (8, .int (nI (n + 1)))] [] (fp_m L R I J)) (a - 1) (fun n hn => by
    have g := gb (n + 1)
    have A := ab n
    rw [e_X3_surveyQuestion_22]
    simp only [gi_34, hl.2.1, Option.bind_some]
    rw [if_neg (nI_ge (show n + 1 < a by omega) (by omega)), k_34, cond_true, c_sumOfFirst hR hl q2 a1 a2 hm hy (show n + 1 < 3 by omega) hF, fp_oI', Option.bind_some, fp_am, Nat.zero_add]
    dsimp only
    generalize fp_gs W q a m f y (n + 1) = x at *
    generalize fp_am (fp_gs W q a m f y) 0 n = B at *
    have le := zI_le (a := x) (b := B.1) (by omega) (by omega) (by omega) (by omega)
    have eq := zI_eq (a := x) (b := B.1) (by omega) (by omega) (by omega) (by omega)
    have mn := fp_pmin (x := B.2.2.2) (y := x) (by omega) (by omega) (by omega) (by omega)
    rcases fp_tri B.1 x with h | h | h
    · rw [if_neg (fun q => by have := le.mp q; omega), e_X3_surveyQuestion_72, mn, fp_cm_lt (A := B) (B := (x, n + 1, 1, x)) h, nI_1]
      rfl
    · rw [if_pos (le.mpr (by omega)), if_pos (eq.mpr h.symm), e_X3_surveyQuestion_72, mn, fp_cm_eq (A := B) (B := (x, n + 1, 1, x)) h, nI_1, nI_1]
    · rw [if_pos (le.mpr (by omega)), if_neg (fun q => by have := eq.mp q; omega), e_X3_surveyQuestion_72, mn, fp_cm_gt (A := B) (B := (x, n + 1, 1, x)) h, nI_1])
  rw [e_X3_surveyQuestion, k_34, cond_true, show pm_C mX3_sumOfFirst [.ref 34, .int (nI y), .int 0, .int (nI m)] (fp_m L R I J) = _ from c_sumOfFirst (b := 0) hR hl q2 a1 a2 hm hy (by decide) hF, fp_oI', Option.bind_some]
  dsimp only
  rw [show pm_res mX3_surveyQuestion 22 [(0, .ref 34), (1, .int (nI y)), (2, .int (nI m)), (3, .int (nI P)), (4, .int (zI (fp_gs W q a m f y 0))), (5, .int (zI (fp_gs W q a m f y 0))), (6, .int 0), (7, .int 1), (8, .int 1)] [] (fp_m L R I J) = _ from key, e_X3_surveyQuestion_22]
  simp only [gi_34, hl.2.1, Option.bind_some]
  rw [if_pos (nI_le (show a ≤ a - 1 + 1 by omega) (by omega))]
  generalize fp_am (fp_gs W q a m f y) 0 (a - 1) = A
  obtain ⟨s1, s2, s3, s4⟩ := hS
  simp only [gi_34, pi_34, Option.bind_some, pm_up_same, bx_uu, pm_up_other _ _ (show (8 : Nat) ≠ 7 by decide), pm_up_other _ _ (show (9 : Nat) ≠ 8 by decide), pm_up_other _ _ (show (9 : Nat) ≠ 7 by decide), pm_up_other _ _ (show (10 : Nat) ≠ 9 by decide), pm_up_other _ _ (show (10 : Nat) ≠ 8 by decide), pm_up_other _ _ (show (10 : Nat) ≠ 7 by decide), s1, s2, s3, s4, zI_add, pk_mul, nI_add]
  refine ⟨_, rfl, ⟨?_, ?_, ?_, ?_⟩, fun k hk => ?_, fun i hi => pm_up_other _ _ hi⟩
  · rw [pm_up_same, pm_up_other _ _ (by decide), pm_up_other _ _ (by decide), pm_up_other _ _ (by decide), pm_up_same]
    rfl
  · rw [pm_up_same, pm_up_other _ _ (by decide), pm_up_other _ _ (by decide), pm_up_same]
    rfl
  · rw [pm_up_same, pm_up_other _ _ (by decide), pm_up_same]
    rfl
  · rw [pm_up_same, pm_up_same]
    rfl
  · rw [pm_up_same, pm_up_other _ _ (by omega), pm_up_other _ _ (by omega), pm_up_other _ _ (by omega), pm_up_other _ _ (by omega)]
theorem c_surveyO (hR : fp_RK R) {q a : Nat} {W : Nat → Int} (hW : ∀ k, -1000 ≤ W k ∧ W k ≤ 1000) (hl : fp_lw I q a W) (q2 : q ≤ 3) (a1 : 2 ≤ a) (a2 : a ≤ 3) {m f : Nat} (hm : m < 8) (hf : f < 2 ^ 31) : ∃ I', pm_C mX3_surveyOthers [.ref 34, .int (nI f), .int (nI m)] (fp_m L R I J) = some (.null, fp_m L R I' J) ∧ fp_of I' (fp_so (fp_gs W q a m f) a q) ∧ (∀ k, k < 7 → I' 34 k = I 34 k) ∧ ∀ i, i ≠ 34 → i ≠ 36 → I' i = I i := by
  obtain ⟨I1, p1, e1⟩ := fp_li0 (fun x (I' : Nat → Nat → Int32) => pm_res mX3_surveyOthers 2 [(0, .ref 34), (1, .int (nI f)), (2, .int (nI m)), (3, .int (nI x))] [] (fp_m L R I' J)) (fun x I' => (∀ j, j < x → I' 36 j = nI (fp_dg a f j)) ∧ ∀ i, i ≠ 36 → I' i = I i) q (fun x I' hx p => by
    refine ⟨va_up I' 36 (va_up (I' 36) x (nI (fp_dg a f x))), ⟨fun j hj => ?_, fun i hi => by rw [pm_up_other _ _ hi]; exact p.2 i hi⟩, ?_⟩
    · rw [pm_up_same]
      by_cases e : j = x
      · rw [e, pm_up_same]
      · rw [pm_up_other _ _ e]; exact p.1 j (by omega)
    · rw [e_X3_surveyOthers_2]
      simp only [gi_34, p.2 34 (by decide), hl.1, hl.2.1, Option.bind_some]
      rw [if_neg (nI_ge hx (by omega))]
      simp only [gr_34_11 hR, Option.bind_some]
      rw [c_digit _ hf a1 (by omega) (by omega), fp_oI']
      simp only [Option.bind_some]
      rw [si_36 (by omega), Option.bind_some, nI_1]) (s := I) ⟨fun j hj => absurd hj (Nat.not_lt_zero j), fun _ _ => rfl⟩
  have l34 : I1 34 = I 34 := p1.2 34 (by decide)
  have fin1 : ∃ I2, pm_res mX3_surveyOthers 2 [(0, .ref 34), (1, .int (nI f)), (2, .int (nI m)), (3, .int (nI q))] [] (fp_m L R I1 J) = pm_res mX3_surveyOthers 56 [(0, .ref 34), (2, .int (nI m)), (3, .int (nI 1)), (4, .int (nI 0))] [] (fp_m L R I2 J) ∧ fp_of I2 (0, 0, 1, 0) ∧ (∀ k, k < 7 → I2 34 k = I 34 k) ∧ ∀ i, i ≠ 34 → I2 i = I1 i := by
    rw [e_X3_surveyOthers_2]
    simp only [gi_34, l34, hl.1, Option.bind_some]
    rw [if_pos (nI_le (Nat.le_refl _) (by omega))]
    simp only [pi_34, Option.bind_some, pm_up_same, bx_uu, l34]
    refine ⟨_, rfl, ⟨?_, ?_, ?_, ?_⟩, fun k hk => ?_, fun i hi => pm_up_other _ _ hi⟩
    · rw [pm_up_same, pm_up_other _ _ (by decide), pm_up_other _ _ (by decide), pm_up_other _ _ (by decide), pm_up_same]
      rfl
    · rw [pm_up_same, pm_up_other _ _ (by decide), pm_up_other _ _ (by decide), pm_up_same]
      rfl
    · rw [pm_up_same, pm_up_other _ _ (by decide), pm_up_same]
      rfl
    · rw [pm_up_same, pm_up_same]
      rfl
    · rw [pm_up_same, pm_up_other _ _ (by omega), pm_up_other _ _ (by omega), pm_up_other _ _ (by omega), pm_up_other _ _ (by omega)]
  obtain ⟨I2, g1, g2, g3, g4⟩ := fin1
  obtain ⟨I3, p3, e3⟩ := fp_li0 (fun y (I' : Nat → Nat → Int32) => pm_res mX3_surveyOthers 56 [(0, .ref 34), (2, .int (nI m)), (3, .int (nI (a ^ y))), (4, .int (nI y))] [] (fp_m L R I' J)) (fun y I' => fp_of I' (fp_so (fp_gs W q a m f) a y) ∧ (∀ k, k < 7 → I' 34 k = I 34 k) ∧ (∀ x, x < q → I' 36 x = nI (fp_dg a f x)) ∧ ∀ i, i ≠ 34 → i ≠ 36 → I' i = I i) q (fun y I' hy p => by
    have hl' : fp_lw I' q a W := ⟨by rw [p.2.1 0 (by decide)]; exact hl.1, by rw [p.2.1 1 (by decide)]; exact hl.2.1, fun k hk => by rw [p.2.2.2 35 (by decide) (by decide)]; exact hl.2.2 k hk⟩
    obtain ⟨I4, c1, c2, c3, c4⟩ := c_surveyQ (L := L) (J := J) (P := a ^ y) hR hW hl' q2 a1 a2 hm (show y < 3 by omega) p.2.2.1 p.1
    refine ⟨I4, ⟨c2, fun k hk => by rw [c3 k hk, p.2.1 k hk], fun x hx => by rw [c4 36 (by decide)]; exact p.2.2.1 x hx, fun i h1 h2 => by rw [c4 i h1, p.2.2.2 i h1 h2]⟩, ?_⟩
    rw [e_X3_surveyOthers_56]
    simp only [gi_34, hl'.1, Option.bind_some]
    rw [if_neg (nI_ge hy (by omega)), k_34, cond_true, c1, fp_oV']
    simp only [gi_34, c3 1 (by decide), hl'.2.1, Option.bind_some]
    rw [pk_mul, ← Nat.pow_succ, nI_1]) (s := I2) ⟨g2, g3, fun x hx => by rw [g4 36 (by decide)]; exact p1.1 x hx, fun i h1 h2 => by rw [g4 i h1, p1.2 i h2]⟩
  refine ⟨I3, ?_, p3.1, p3.2.1, p3.2.2.2⟩
  rw [e_X3_surveyOthers, show pm_res mX3_surveyOthers 2 [(0, .ref 34), (1, .int (nI f)), (2, .int (nI m)), (3, .int 0)] [] (fp_m L R I J) = _ from e1, g1]
  refine (show pm_res mX3_surveyOthers 56 [(0, .ref 34), (2, .int (nI m)), (3, .int (nI 1)), (4, .int (nI 0))] [] (fp_m L R I2 J) = _ from e3).trans ?_
  rw [e_X3_surveyOthers_56]
  simp only [gi_34, p3.2.1 0 (by decide), hl.1, Option.bind_some]
  rw [if_pos (nI_le (Nat.le_refl _) (by omega))]
theorem c_survey40 (m f P : Nat) : ∃ I', pm_res mX3_survey 40 [(0, .ref 34), (1, .int (nI m)), (2, .int (nI P)), (3, .int (nI f))] [] (fp_m L R I J) = pm_res mX3_survey 95 [(0, .ref 34), (1, .int (nI m)), (2, .int (nI P)), (3, .int (nI f))] [] (fp_m L R I' J) ∧ I' 34 3 = I 34 7 ∧ I' 34 4 = nI f * nI P + I 34 8 ∧ I' 34 5 = I 34 9 ∧ (∀ k, k ≠ 3 → k ≠ 4 → k ≠ 5 → I' 34 k = I 34 k) ∧ ∀ i, i ≠ 34 → I' i = I i := by
  rw [e_X3_survey_40]
  simp only [gi_34, pi_34, Option.bind_some, pm_up_same, bx_uu, pm_up_other _ _ (show (8 : Nat) ≠ 3 by decide), pm_up_other _ _ (show (9 : Nat) ≠ 4 by decide), pm_up_other _ _ (show (9 : Nat) ≠ 3 by decide)]
  refine ⟨_, rfl, ?_, ?_, ?_, fun k h1 h2 h3 => ?_, fun i hi => pm_up_other _ _ hi⟩
  · rw [pm_up_same, pm_up_other _ _ (by decide), pm_up_other _ _ (by decide), pm_up_same]
  · rw [pm_up_same, pm_up_other _ _ (by decide), pm_up_same]
  · rw [pm_up_same, pm_up_same]
  · rw [pm_up_same, pm_up_other _ _ h3, pm_up_other _ _ h2, pm_up_other _ _ h1]
theorem c_survey95 {m f P : Nat} (hf : f < 2 ^ 31) {l o : Int} (l1 : -9000 ≤ l ∧ l ≤ 9000) (o1 : -9000 ≤ o ∧ o ≤ 9000) (h10 : I 34 10 = zI o) (h6 : f ≠ 0 → I 34 6 = zI l) : ∃ I', pm_res mX3_survey 95 [(0, .ref 34), (1, .int (nI m)), (2, .int (nI P)), (3, .int (nI f))] [] (fp_m L R I J) = pm_res mX3_survey 14 [(0, .ref 34), (1, .int (nI m)), (2, .int (nI P)), (3, .int (nI (f + 1)))] [] (fp_m L R I' J) ∧ I' 34 6 = zI (if f = 0 then o else min l o) ∧ (∀ k, k ≠ 6 → I' 34 k = I 34 k) ∧ ∀ i, i ≠ 34 → I' i = I i := by
  have set : pm_res mX3_survey 110 [(0, .ref 34), (1, .int (nI m)), (2, .int (nI P)), (3, .int (nI f))] [] (fp_m L R I J) = pm_res mX3_survey 14 [(0, .ref 34), (1, .int (nI m)), (2, .int (nI P)), (3, .int (nI (f + 1)))] [] (fp_m L R (va_up I 34 (va_up (I 34) 6 (zI o))) J) := by
    rw [e_X3_survey_110]
    simp only [gi_34, pi_34, Option.bind_some, h10, nI_1]
  rw [e_X3_survey_95]
  by_cases h0 : f = 0
  · rw [if_pos (fp_eqR h0), if_pos h0, set]
    exact ⟨_, rfl, by rw [pm_up_same, pm_up_same], fun k hk => by rw [pm_up_same, pm_up_other _ _ hk], fun i hi => pm_up_other _ _ hi⟩
  · rw [if_neg (fp_ne h0 hf (by decide)), if_neg h0]
    simp only [gi_34, h10, h6 h0, Option.bind_some]
    by_cases h : l ≤ o
    · rw [if_pos ((zI_le (by omega) (by omega) (by omega) (by omega)).mpr h), nI_1, Int.min_eq_left h]
      exact ⟨I, rfl, h6 h0, fun _ _ => rfl, fun _ _ => rfl⟩
    · rw [if_neg (fun q => h ((zI_le (by omega) (by omega) (by omega) (by omega)).mp q)), set, Int.min_eq_right (by omega)]
      exact ⟨_, rfl, by rw [pm_up_same, pm_up_same], fun k hk => by rw [pm_up_same, pm_up_other _ _ hk], fun i hi => pm_up_other _ _ hi⟩
theorem c_survey (hR : fp_RK R) {q a : Nat} {W : Nat → Int} (hW : ∀ k, -1000 ≤ W k ∧ W k ≤ 1000) (hl : fp_lw I q a W) (q2 : q ≤ 3) (a1 : 2 ≤ a) (a2 : a ≤ 3) {m : Nat} (hm : m < 8) : ∃ I', pm_C mX3_survey [.ref 34, .int (nI m)] (fp_m L R I J) = some (.null, fp_m L R I' J) ∧ fp_sf4 I' (fp_su4 W q a m) ∧ I' 34 0 = I 34 0 ∧ I' 34 1 = I 34 1 ∧ ∀ i, i ≠ 34 → i ≠ 36 → I' i = I i := by
  have hpw := fp_pw3 a2 q2
  have hpos : 0 < a ^ q := Nat.pow_pos (by omega)
  have bb := fp_bf_b hW q2 a m
  have bk := fp_bk_b (B := fp_bf W q a m) (z := 9000) bb
  let Q : Nat → (Nat → Nat → Int32) → Prop := fun n I' => fp_sf4 I' (fp_bk (fp_bf W q a m) n) ∧ I' 34 0 = I 34 0 ∧ I' 34 1 = I 34 1 ∧ ∀ i, i ≠ 34 → i ≠ 36 → I' i = I i
  have oth : ∀ f (I' : Nat → Nat → Int32), f < a ^ q → (I' 34 0 = I 34 0 ∧ I' 34 1 = I 34 1 ∧ ∀ i, i ≠ 34 → i ≠ 36 → I' i = I i) → ∃ I2, pm_C mX3_surveyOthers [.ref 34, .int (nI f), .int (nI m)] (fp_m L R I' J) = some (.null, fp_m L R I2 J) ∧ I2 34 7 = zI (fp_bf W q a m f).1 ∧ nI f * nI (a ^ q) + I2 34 8 = nI (fp_bf W q a m f).2.1 ∧ I2 34 9 = nI (fp_bf W q a m f).2.2.1 ∧ I2 34 10 = zI (fp_bf W q a m f).2.2.2 ∧ (∀ k, k < 7 → I2 34 k = I' 34 k) ∧ ∀ i, i ≠ 34 → i ≠ 36 → I2 i = I i := by
    intro f I' hf p
    have hl' : fp_lw I' q a W := ⟨by rw [p.1]; exact hl.1, by rw [p.2.1]; exact hl.2.1, fun k hk => by rw [p.2.2 35 (by decide) (by decide)]; exact hl.2.2 k hk⟩
    obtain ⟨I2, c1, ⟨c2, c3, c4, c5⟩, c6, c7⟩ := c_surveyO (L := L) (J := J) (f := f) hR hW hl' q2 a1 a2 hm (by omega)
    refine ⟨I2, c1, ?_, ?_, c4, ?_, c6, fun i h1 h2 => by rw [c7 i h1 h2, p.2.2 i h1 h2]⟩
    · rw [c2]
      show zI _ = zI (_ + 0)
      rw [Int.add_zero]
    · rw [c3, pk_mul, nI_add]
      rfl
    · rw [c5]
      show zI _ = zI (_ + 0)
      rw [Int.add_zero]
  have first : ∃ I2, Q 0 I2 ∧ pm_res mX3_survey 14 [(0, .ref 34), (1, .int (nI m)), (2, .int (nI (a ^ q))), (3, .int (nI 0))] [] (fp_m L R I J) = pm_res mX3_survey 14 [(0, .ref 34), (1, .int (nI m)), (2, .int (nI (a ^ q))), (3, .int (nI 1))] [] (fp_m L R I2 J) := by
    obtain ⟨I2, c1, c2, c3, c4, c5, c6, c7⟩ := oth 0 I hpos ⟨rfl, rfl, fun _ _ _ => rfl⟩
    obtain ⟨I3, d1, d2, d3, d4, d5, d6⟩ := c_survey40 (L := L) (R := R) (I := I2) (J := J) m 0 (a ^ q)
    obtain ⟨I4, e1, e2, e3, e4⟩ := c_survey95 (L := L) (R := R) (I := I3) (J := J) (m := m) (P := a ^ q) (f := 0) (by decide) (l := 0) (o := (fp_bf W q a m 0).2.2.2) (by decide) (bb 0).2 (by rw [d5 10 (by decide) (by decide) (by decide)]; exact c5) (fun h => absurd rfl h)
    rw [if_pos rfl] at e2
    refine ⟨I4, ⟨⟨?_, ?_, ?_, e2⟩, ?_, ?_, fun i h1 h2 => by rw [e4 i h1, d6 i h1, c7 i h1 h2]⟩, ?_⟩
    · rw [e3 3 (by decide), d2]; exact c2
    · rw [e3 4 (by decide), d3]; exact c3
    · rw [e3 5 (by decide), d4]; exact c4
    · rw [e3 0 (by decide), d5 0 (by decide) (by decide) (by decide), c6 0 (by decide)]
    · rw [e3 1 (by decide), d5 1 (by decide) (by decide) (by decide), c6 1 (by decide)]
    · rw [e_X3_survey_14, if_neg (nI_ge hpos (by omega)), k_34, cond_true, c1, fp_oV', Option.bind_some, if_pos (show nI 0 = 0 from rfl), d1, e1]
  have step : ∀ n (I' : Nat → Nat → Int32), n < a ^ q - 1 → Q n I' → ∃ I2, Q (n + 1) I2 ∧ pm_res mX3_survey 14 [(0, .ref 34), (1, .int (nI m)), (2, .int (nI (a ^ q))), (3, .int (nI (n + 1)))] [] (fp_m L R I' J) = pm_res mX3_survey 14 [(0, .ref 34), (1, .int (nI m)), (2, .int (nI (a ^ q))), (3, .int (nI (n + 1 + 1)))] [] (fp_m L R I2 J) := by
    intro n I' hn hQ
    obtain ⟨⟨s1, s2, s3, s4⟩, s5, s6, s7⟩ := hQ
    obtain ⟨I2, c1, c2, c3, c4, c5, c6, c7⟩ := oth (n + 1) I' (by omega) ⟨s5, s6, s7⟩
    have B1 := bb (n + 1)
    have A1 := bk n
    have head : pm_res mX3_survey 14 [(0, .ref 34), (1, .int (nI m)), (2, .int (nI (a ^ q))), (3, .int (nI (n + 1)))] [] (fp_m L R I' J) = if zI (fp_bf W q a m (n + 1)).1 ≤ zI (fp_bk (fp_bf W q a m) n).1 then (if zI (fp_bf W q a m (n + 1)).1 = zI (fp_bk (fp_bf W q a m) n).1 then pm_res mX3_survey 95 [(0, .ref 34), (1, .int (nI m)), (2, .int (nI (a ^ q))), (3, .int (nI (n + 1)))] [] (fp_m L R (va_up I2 34 (va_up (I2 34) 5 (nI ((fp_bk (fp_bf W q a m) n).2.2.1 + (fp_bf W q a m (n + 1)).2.2.1)))) J) else pm_res mX3_survey 95 [(0, .ref 34), (1, .int (nI m)), (2, .int (nI (a ^ q))), (3, .int (nI (n + 1)))] [] (fp_m L R I2 J)) else pm_res mX3_survey 40 [(0, .ref 34), (1, .int (nI m)), (2, .int (nI (a ^ q))), (3, .int (nI (n + 1)))] [] (fp_m L R I2 J) := by
      rw [e_X3_survey_14, if_neg (nI_ge (by omega) (by omega)), k_34, cond_true, c1, fp_oV', Option.bind_some, if_neg (fp_ne (by omega) (by omega) (by decide))]
      simp only [gi_34, pi_34, Option.bind_some, c2, c4, c6 3 (by decide), c6 5 (by decide), s1, s3, nI_add]
    show ∃ I2, (fp_sf4 I2 (fp_cm (fp_bk (fp_bf W q a m) n) (fp_bf W q a m (n + 1))) ∧ I2 34 0 = I 34 0 ∧ I2 34 1 = I 34 1 ∧ ∀ i, i ≠ 34 → i ≠ 36 → I2 i = I i) ∧ pm_res mX3_survey 14 [(0, .ref 34), (1, .int (nI m)), (2, .int (nI (a ^ q))), (3, .int (nI (n + 1)))] [] (fp_m L R I' J) = pm_res mX3_survey 14 [(0, .ref 34), (1, .int (nI m)), (2, .int (nI (a ^ q))), (3, .int (nI (n + 1 + 1)))] [] (fp_m L R I2 J)
    generalize fp_bf W q a m (n + 1) = O at *
    generalize fp_bk (fp_bf W q a m) n = A at *
    have le := zI_le (a := O.1) (b := A.1) (by omega) (by omega) (by omega) (by omega)
    have eq := zI_eq (a := O.1) (b := A.1) (by omega) (by omega) (by omega) (by omega)
    rcases fp_tri A.1 O.1 with h | h | h
    · obtain ⟨I3, d1, d2, d3, d4, d5, d6⟩ := c_survey40 (L := L) (R := R) (I := I2) (J := J) m (n + 1) (a ^ q)
      obtain ⟨I4, e1, e2, e3, e4⟩ := c_survey95 (L := L) (R := R) (I := I3) (J := J) (m := m) (P := a ^ q) (f := n + 1) (by omega) (l := A.2.2.2) (o := O.2.2.2) A1.2 B1.2 (by rw [d5 10 (by decide) (by decide) (by decide)]; exact c5) (fun _ => by rw [d5 6 (by decide) (by decide) (by decide), c6 6 (by decide)]; exact s4)
      rw [if_neg (by omega)] at e2
      refine ⟨I4, ⟨?_, ?_, ?_, fun i h1 h2 => by rw [e4 i h1, d6 i h1, c7 i h1 h2]⟩, ?_⟩
      · rw [fp_cm_lt h]
        exact ⟨by rw [e3 3 (by decide), d2]; exact c2, by rw [e3 4 (by decide), d3]; exact c3, by rw [e3 5 (by decide), d4]; exact c4, e2⟩
      · rw [e3 0 (by decide), d5 0 (by decide) (by decide) (by decide), c6 0 (by decide), s5]
      · rw [e3 1 (by decide), d5 1 (by decide) (by decide) (by decide), c6 1 (by decide), s6]
      · rw [head, if_neg (fun q => by have := le.mp q; omega), d1, e1]
    · obtain ⟨I4, e1, e2, e3, e4⟩ := c_survey95 (L := L) (R := R) (I := va_up I2 34 (va_up (I2 34) 5 (nI (A.2.2.1 + O.2.2.1)))) (J := J) (m := m) (P := a ^ q) (f := n + 1) (by omega) (l := A.2.2.2) (o := O.2.2.2) A1.2 B1.2 (by rw [pm_up_same, pm_up_other _ _ (by decide)]; exact c5) (fun _ => by rw [pm_up_same, pm_up_other _ _ (by decide), c6 6 (by decide)]; exact s4)
      rw [if_neg (by omega)] at e2
      refine ⟨I4, ⟨?_, ?_, ?_, fun i h1 h2 => by rw [e4 i h1, pm_up_other _ _ h1, c7 i h1 h2]⟩, ?_⟩
      · rw [fp_cm_eq h]
        exact ⟨by rw [e3 3 (by decide), pm_up_same, pm_up_other _ _ (by decide), c6 3 (by decide)]; exact s1, by rw [e3 4 (by decide), pm_up_same, pm_up_other _ _ (by decide), c6 4 (by decide)]; exact s2, by rw [e3 5 (by decide), pm_up_same, pm_up_same], e2⟩
      · rw [e3 0 (by decide), pm_up_same, pm_up_other _ _ (by decide), c6 0 (by decide), s5]
      · rw [e3 1 (by decide), pm_up_same, pm_up_other _ _ (by decide), c6 1 (by decide), s6]
      · rw [head, if_pos (le.mpr (by omega)), if_pos (eq.mpr h.symm), e1]
    · obtain ⟨I4, e1, e2, e3, e4⟩ := c_survey95 (L := L) (R := R) (I := I2) (J := J) (m := m) (P := a ^ q) (f := n + 1) (by omega) (l := A.2.2.2) (o := O.2.2.2) A1.2 B1.2 c5 (fun _ => by rw [c6 6 (by decide)]; exact s4)
      rw [if_neg (by omega)] at e2
      refine ⟨I4, ⟨?_, ?_, ?_, fun i h1 h2 => by rw [e4 i h1, c7 i h1 h2]⟩, ?_⟩
      · rw [fp_cm_gt h]
        exact ⟨by rw [e3 3 (by decide), c6 3 (by decide)]; exact s1, by rw [e3 4 (by decide), c6 4 (by decide)]; exact s2, by rw [e3 5 (by decide), c6 5 (by decide)]; exact s3, e2⟩
      · rw [e3 0 (by decide), c6 0 (by decide), s5]
      · rw [e3 1 (by decide), c6 1 (by decide), s6]
      · rw [head, if_pos (le.mpr (by omega)), if_neg (fun q => by have := eq.mp q; omega), e1]
  obtain ⟨I2, p2, e2⟩ := first
  obtain ⟨I3, p3, e3⟩ := fp_li0 (fun n (I' : Nat → Nat → Int32) => pm_res mX3_survey 14 [(0, .ref 34), (1, .int (nI m)), (2, .int (nI (a ^ q))), (3, .int (nI (n + 1)))] [] (fp_m L R I' J)) (fun n I' => Q n I') (a ^ q - 1) step (s := I2) p2
  refine ⟨I3, ?_, p3⟩
  rw [e_X3_survey]
  simp only [gi_34, hl.1, hl.2.1, Option.bind_some, c_power _ _ _ (show q < 2 ^ 31 by omega), fp_oI']
  refine (show pm_res mX3_survey 14 [(0, .ref 34), (1, .int (nI m)), (2, .int (nI (a ^ q))), (3, .int 0)] [] (fp_m L R I J) = _ from e2).trans ?_
  refine (show pm_res mX3_survey 14 [(0, .ref 34), (1, .int (nI m)), (2, .int (nI (a ^ q))), (3, .int (nI 1))] [] (fp_m L R I2 J) = _ from e3).trans ?_
  rw [e_X3_survey_14, if_pos (nI_le (show a ^ q ≤ a ^ q - 1 + 1 by omega) (by omega))]
end FpSurvey
