/-! isOf, who, number, law, broken, near -/
noncomputable def fp_loc (T : fp_T) : Int64 := by
  classical
  exact if fp_si T then (if T.1 = 1 ∨ ∃ n, fp_sr T n then 1 else if fp_two T then (if fp_gv T ≤ 2 * T.2.2.1 then 1 else 0) else pm_LARGE) else 0
theorem fp_BAD_ne : ¬ (pm_BAD = 0) := by decide
theorem fp_NO_ne : ¬ (pm_NO = 0) := by decide
section FpKind2
variable {L : Nat} {R : Nat → Nat → Option Nat} {I : Nat → Nat → Int32} {J : Nat → Nat → Int64}
theorem fp_sr_lt {T : fp_T} (hok : fp_okT T) {n : Nat} (h : fp_sr T n) : n < 729 := by
  have hq := fp_okT_q hok
  have := fp_pw6 hq.2.1 hq.1
  have := h.2.1
  omega
theorem c_local (hR : fp_RK R) {r : Nat} (hr : fp_tb r) {T : fp_T} (hT : fp_at I r T) (hok : fp_okT T) (h0 : T.1 ≠ 0) : pm_C mX6_localAnswer [.ref r] (fp_m L R I J) = some (.long (fp_loc T), fp_m L R I J) := by
  have hq := fp_okT_q hok
  have c := c_isSilent (L := L) (J := J) hR hr hT hok h0
  have d := c_sureNumber (L := L) (J := J) hR hr hT hok h0
  have e := c_isTwo (L := L) (R := R) (J := J) hr hT hok
  unfold fp_loc
  rw [e_X6_localAnswer]
  by_cases hs : fp_si T
  case neg =>
    rw [if_neg hs]
    simp only [k_T hr, cond_true, c.2 hs, fp_oI', Option.bind_some, if_true]
  rw [if_pos hs]
  simp only [k_T hr, cond_true, c.1 hs, fp_oI', Option.bind_some, fp_10, if_false, gi_T hr, hT.1]
  by_cases h1 : T.1 = 1
  · rw [if_pos (fp_eqR h1), if_pos (Or.inl h1)]
  rw [if_neg (fp_ne h1 (by omega) (by decide))]
  by_cases h2 : ∃ n, fp_sr T n
  · obtain ⟨n, hn⟩ := h2
    have := fp_sr_lt hok hn
    rw [if_pos (Or.inr ⟨n, hn⟩)]
    simp only [k_T hr, cond_true, d.1 n hn, fp_oI', Option.bind_some]
    rw [if_neg (nI_pos (by omega))]
  rw [if_neg (fun q => q.elim h1 h2)]
  simp only [d.2 (fun n q => h2 ⟨n, q⟩), fp_oI', Option.bind_some]
  rw [if_pos (by decide)]
  by_cases h3 : fp_two T
  · have b := fp_cw_b hok (fp_grl T 7)
    rw [if_pos h3]
    simp only [k_T hr, cond_true, e.1 h3, fp_oI', fp_oL', Option.bind_some, fp_10, if_false, c_greatest hR hr hT hok, c_cornerLaw hR hr hT hok (fp_gcl T), gi_T hr, hT.2.2.1, fp_w2 (show T.2.2.1 < 2 ^ 31 by omega), fp_cmp_gt, zL_lt (show -9223372036854775808 ≤ 2 * (T.2.2.1 : Int) by omega) (by omega) (show -9223372036854775808 ≤ fp_cw T (fp_grl T 7) by omega) (by omega)]
    unfold fp_gv
    by_cases h4 : fp_cw T (fp_grl T 7) ≤ 2 * T.2.2.1
    · rw [if_neg (by omega), if_pos h4]
    · rw [if_pos (by omega), if_neg h4]
  · rw [if_neg h3]
    simp only [k_T hr, cond_true, e.2 h3, fp_oI', Option.bind_some, if_true]
theorem r_local (hR : fp_RK R) {t : Nat} (ht : t < 8) {T : fp_T} (hT : fp_mt I t T) (hok : fp_okT T) (h0 : T.1 ≠ 0) : pm_C mX7_isLocal [.ref 45, .int (nI t)] (fp_m L R I J) = some (.long (fp_loc T), fp_m L R I J) := by
  have hq := fp_okT_q hok
  have c := r_isSilent (L := L) (J := J) hR ht hT hok h0
  have d := r_sureNumber (L := L) (J := J) hR ht hT hok h0
  have e := r_isTwo (L := L) (J := J) hR ht hT hok
  have k := r_keepsAll (L := L) (J := J) hR ht hT hok
  unfold fp_loc
  rw [e_X7_isLocal]
  by_cases h2 : ∃ n, fp_sr T n
  · obtain ⟨n, hn⟩ := h2
    have := fp_sr_lt hok hn
    rw [if_pos (fp_sr_si hok h0 hn), if_pos (Or.inr ⟨n, hn⟩)]
    simp only [k_45, cond_true, d.1 n hn, fp_oL', Option.bind_some, fp_cmp_eq]
    rw [nI_l (by omega), if_neg (fp_nn (by omega))]
  simp only [k_45, cond_true, d.2 (fun n q => h2 ⟨n, q⟩), fp_oL', Option.bind_some, fp_cmp_eq, if_true]
  by_cases hs : fp_si T
  case neg =>
    rw [if_neg hs]
    simp only [c.2 hs, fp_oI', Option.bind_some, if_true]
  rw [if_pos hs]
  simp only [k_45, cond_true, c.1 hs, fp_oI', Option.bind_some, fp_10, if_false, r_q hR ht hT]
  by_cases h1 : T.1 = 1
  · rw [if_pos (fp_eqR h1), if_pos (Or.inl h1)]
  rw [if_neg (fp_ne h1 (by omega) (by decide)), if_neg (fun q => q.elim h1 h2)]
  by_cases h3 : fp_two T
  · rw [if_pos h3]
    simp only [k_45, cond_true, e.1 h3, fp_oI', Option.bind_some, fp_10, if_false]
    by_cases h4 : fp_gv T ≤ 2 * T.2.2.1
    · rw [if_pos h4]
      simp only [k.1 h4, fp_oI', Option.bind_some, fp_10, if_false]
    · rw [if_neg h4]
      simp only [k.2 h4, fp_oI', Option.bind_some, if_true]
  · rw [if_neg h3]
    simp only [k_45, cond_true, e.2 h3, fp_oI', Option.bind_some, if_true]
theorem b_who (hR : fp_RK R) (t : Int32) : fp_Both L R mX6_who mX7_who [.int t] := by
  intro S hok
  by_cases h1 : 0 ≤ t.toInt ∧ t.toInt < 8
  case neg =>
    refine ⟨S, pm_BAD, hok, fp_Cs.same fun I J hC => ?_, fp_Ms.same fun I J hM => ?_⟩
    · rw [e_X6_who, c_isT0 _ h1, fp_oI']; rfl
    · rw [e_X7_who, k_45, cond_true, r_asked0 h1, fp_oL']; rfl
  obtain ⟨t', ht, rfl⟩ := fp_nat (k := 8) h1.1 h1.2 (by decide)
  have hT := fp_okT_q (hok.1 t' ht)
  by_cases h0 : (S.1 t').1 = 0
  · refine ⟨S, pm_NO, hok, fp_Cs.same fun I J hC => ?_, fp_Ms.same fun I J hM => ?_⟩
    · rw [e_X6_who]
      simp only [c_isT _ ht, fp_oI', Option.bind_some, fp_10, if_false, gr_1_0 hR, ar_2 hR ht, k_T (tb_t ht), cond_true, c_isMissing (tb_t ht) (hC.1 t' ht) h0]
    · rw [e_X7_who, k_45, cond_true, r_asked1 hR ht (fp_mt_of hM ht) h0, fp_oL']; rfl
  by_cases hp : fp_pr (S.1 t')
  case neg =>
    refine ⟨S, pm_NO, hok, fp_Cs.same fun I J hC => ?_, fp_Ms.same fun I J hM => ?_⟩
    · rw [e_X6_who]
      simp only [c_isT _ ht, fp_oI', Option.bind_some, fp_10, if_false, gr_1_0 hR, ar_2 hR ht, k_T (tb_t ht), cond_true, c_isMissing0 (tb_t ht) (hC.1 t' ht) h0 hT.1, if_true, (c_isProper (L := L) (J := J) hR (tb_t ht) (hC.1 t' ht) (hok.1 t' ht)).2 hp]
    · rw [e_X7_who, k_45, cond_true, r_asked2 hR ht (fp_mt_of hM ht) h0 hT.1, fp_oL']
      simp only [Option.bind_some, fp_cmp_eq, if_true, k_45, cond_true, (r_isProper (L := L) (J := J) hR ht (fp_mt_of hM ht) (hok.1 t' ht)).2 hp, fp_oI']
  cases e : fp_ww (S.1 t') with
  | none =>
    refine ⟨S, pm_NONE, hok, fp_Cs.same fun I J hC => ?_, fp_Ms.same fun I J hM => ?_⟩
    · have d := c_firstThat (L := L) (J := J) hR (tb_t ht) (hC.1 t' ht) (hok.1 t' ht) h0
      rw [e] at d
      rw [e_X6_who]
      simp only [c_isT _ ht, fp_oI', Option.bind_some, fp_10, if_false, gr_1_0 hR, ar_2 hR ht, k_T (tb_t ht), cond_true, c_isMissing0 (tb_t ht) (hC.1 t' ht) h0 hT.1, if_true, (c_isProper (L := L) (J := J) hR (tb_t ht) (hC.1 t' ht) (hok.1 t' ht)).1 hp, d]
      rfl
    · have d := r_shows (L := L) (J := J) hR ht (fp_mt_of hM ht) (hok.1 t' ht) h0
      rw [e] at d
      rw [e_X7_who, k_45, cond_true, r_asked2 hR ht (fp_mt_of hM ht) h0 hT.1, fp_oL']
      simp only [Option.bind_some, fp_cmp_eq, if_true, k_45, cond_true, (r_isProper (L := L) (J := J) hR ht (fp_mt_of hM ht) (hok.1 t' ht)).1 hp, fp_oI', fp_oL', fp_10, if_false, d]
  | some v =>
    have hv := fp_ww_lt (hok.1 t' ht) e
    refine ⟨S, lN v, hok, fp_Cs.same fun I J hC => ?_, fp_Ms.same fun I J hM => ?_⟩
    · have d := c_firstThat (L := L) (J := J) hR (tb_t ht) (hC.1 t' ht) (hok.1 t' ht) h0
      rw [e] at d
      rw [e_X6_who]
      simp only [c_isT _ ht, fp_oI', Option.bind_some, fp_10, if_false, gr_1_0 hR, ar_2 hR ht, k_T (tb_t ht), cond_true, c_isMissing0 (tb_t ht) (hC.1 t' ht) h0 hT.1, if_true, (c_isProper (L := L) (J := J) hR (tb_t ht) (hC.1 t' ht) (hok.1 t' ht)).1 hp, d]
      rw [if_pos (nI_pos' (by omega)), nI_l (by omega)]
    · have d := r_shows (L := L) (J := J) hR ht (fp_mt_of hM ht) (hok.1 t' ht) h0
      rw [e] at d
      rw [e_X7_who, k_45, cond_true, r_asked2 hR ht (fp_mt_of hM ht) h0 hT.1, fp_oL']
      simp only [Option.bind_some, fp_cmp_eq, if_true, k_45, cond_true, (r_isProper (L := L) (J := J) hR ht (fp_mt_of hM ht) (hok.1 t' ht)).1 hp, fp_oI', fp_oL', fp_10, if_false, d]
theorem b_number (hR : fp_RK R) (t : Int32) : fp_Both L R mX6_number mX7_number [.int t] := by
  intro S hok
  by_cases h1 : 0 ≤ t.toInt ∧ t.toInt < 8
  case neg =>
    refine ⟨S, pm_BAD, hok, fp_Cs.same fun I J hC => ?_, fp_Ms.same fun I J hM => ?_⟩
    · rw [e_X6_number, c_isT0 _ h1, fp_oI']; rfl
    · rw [e_X7_number, k_45, cond_true, r_asked0 h1, fp_oL']; rfl
  obtain ⟨t', ht, rfl⟩ := fp_nat (k := 8) h1.1 h1.2 (by decide)
  have hT := fp_okT_q (hok.1 t' ht)
  by_cases h0 : (S.1 t').1 = 0
  · refine ⟨S, pm_NO, hok, fp_Cs.same fun I J hC => ?_, fp_Ms.same fun I J hM => ?_⟩
    · rw [e_X6_number]
      simp only [c_isT _ ht, fp_oI', Option.bind_some, fp_10, if_false, gr_1_0 hR, ar_2 hR ht, k_T (tb_t ht), cond_true, c_isMissing (tb_t ht) (hC.1 t' ht) h0]
    · rw [e_X7_number, k_45, cond_true, r_asked1 hR ht (fp_mt_of hM ht) h0, fp_oL']; rfl
  by_cases h2 : ∃ n, fp_sr (S.1 t') n
  · obtain ⟨n, hn⟩ := h2
    have hl := fp_sr_lt (hok.1 t' ht) hn
    refine ⟨S, (nI n).toInt64, hok, fp_Cs.same fun I J hC => ?_, fp_Ms.same fun I J hM => ?_⟩
    · rw [e_X6_number]
      simp only [c_isT _ ht, fp_oI', Option.bind_some, fp_10, if_false, gr_1_0 hR, ar_2 hR ht, k_T (tb_t ht), cond_true, c_isMissing0 (tb_t ht) (hC.1 t' ht) h0 hT.1, if_true, (c_sureNumber (L := L) (J := J) hR (tb_t ht) (hC.1 t' ht) (hok.1 t' ht) h0).1 n hn]
      rw [if_pos (nI_pos' (by omega))]
    · rw [e_X7_number, k_45, cond_true, r_asked2 hR ht (fp_mt_of hM ht) h0 hT.1, fp_oL']
      simp only [Option.bind_some, fp_cmp_eq, if_true, k_45, cond_true, (r_sureNumber (L := L) (J := J) hR ht (fp_mt_of hM ht) (hok.1 t' ht) h0).1 n hn, fp_oL']
  · refine ⟨S, pm_NONE, hok, fp_Cs.same fun I J hC => ?_, fp_Ms.same fun I J hM => ?_⟩
    · rw [e_X6_number]
      simp only [c_isT _ ht, fp_oI', Option.bind_some, fp_10, if_false, gr_1_0 hR, ar_2 hR ht, k_T (tb_t ht), cond_true, c_isMissing0 (tb_t ht) (hC.1 t' ht) h0 hT.1, if_true, (c_sureNumber (L := L) (J := J) hR (tb_t ht) (hC.1 t' ht) (hok.1 t' ht) h0).2 (fun n q => h2 ⟨n, q⟩)]
      rfl
    · rw [e_X7_number, k_45, cond_true, r_asked2 hR ht (fp_mt_of hM ht) h0 hT.1, fp_oL']
      simp only [Option.bind_some, fp_cmp_eq, if_true, k_45, cond_true, (r_sureNumber (L := L) (J := J) hR ht (fp_mt_of hM ht) (hok.1 t' ht) h0).2 (fun n q => h2 ⟨n, q⟩), fp_oL']
/-- a number from 0 to below k, in the reference -/
theorem fp_isIn1 {w : Nat} {k : Int64} (hw : w < 2 ^ 31) (hk : (w : Int) ≤ k.toInt) : (0 : Int64).toInt ≤ (nI w).toInt64.toInt ∧ (nI w).toInt64.toInt ≤ k.toInt := by
  rw [fp_w, nI_toInt hw]
  exact ⟨by show (0 : Int) ≤ _; omega, hk⟩
theorem fp_isIn0 {w : Int32} {k : Int64} {n : Nat} (hk : k.toInt = (n : Int)) (h : ¬ (0 ≤ w.toInt ∧ w.toInt < (n : Int) + 1)) : ¬ ((0 : Int64).toInt ≤ w.toInt64.toInt ∧ w.toInt64.toInt ≤ k.toInt) := by
  rw [fp_w, hk]
  rintro ⟨q1, q2⟩
  exact h ⟨q1, by omega⟩
theorem b_isOf (hR : fp_RK R) (t w : Int32) : fp_Both L R mX6_isOf mX7_isOf [.int t, .int w] := by
  classical
  intro S hok
  by_cases h1 : 0 ≤ t.toInt ∧ t.toInt < 8
  case neg =>
    refine ⟨S, pm_BAD, hok, fp_Cs.same fun I J hC => ?_, fp_Ms.same fun I J hM => ?_⟩
    · rw [e_X6_isOf, c_isT0 _ h1, fp_oI']; rfl
    · rw [e_X7_isOf, r_isT0 _ h1, fp_oI']; rfl
  obtain ⟨t', ht, rfl⟩ := fp_nat (k := 8) h1.1 h1.2 (by decide)
  have hT := fp_okT_q (hok.1 t' ht)
  by_cases h2 : 0 ≤ w.toInt ∧ w.toInt < 5
  case neg =>
    refine ⟨S, pm_BAD, hok, fp_Cs.same fun I J hC => ?_, fp_Ms.same fun I J hM => ?_⟩
    · rw [e_X6_isOf]
      simp only [c_isT _ ht, fp_oI', Option.bind_some, fp_10, if_false]
      by_cases h3 : w < 0
      · rw [if_pos h3]
      · rw [if_neg h3, if_neg]
        intro h4
        simp only [Int32.lt_iff_toInt_lt, Int32.le_iff_toInt_le] at h3 h4
        simp at h3 h4
        omega
    · rw [e_X7_isOf]
      simp only [r_isT _ ht, fp_oI', Option.bind_some, fp_10, if_false]
      rw [r_isIn0 _ (fp_isIn0 (n := 4) (by decide) h2), fp_oI']
      rfl
  obtain ⟨w', hw, rfl⟩ := fp_nat (k := 5) h2.1 h2.2 (by decide)
  have hin := fp_isIn1 (w := w') (k := 4) (by omega) (show (w' : Int) ≤ 4 by omega)
  by_cases h0 : (S.1 t').1 = 0
  · refine ⟨S, pm_NO, hok, fp_Cs.same fun I J hC => ?_, fp_Ms.same fun I J hM => ?_⟩
    · rw [e_X6_isOf]
      simp only [c_isT _ ht, fp_oI', Option.bind_some, fp_10, if_false]
      rw [if_neg (nI_pos (by omega)), if_pos (fp_leR (by omega) (by decide))]
      simp only [gr_1_0 hR, ar_2 hR ht, Option.bind_some, k_T (tb_t ht), cond_true, c_isMissing (tb_t ht) (hC.1 t' ht) h0, fp_oI', fp_10, if_false]
    · rw [e_X7_isOf]
      simp only [r_isT _ ht, fp_oI', Option.bind_some, fp_10, if_false, r_isIn1 _ hin, k_45, cond_true, r_isMissing hR ht (fp_mt_of hM ht) h0]
  generalize hv : (if w' = 0 then (1 : Int64) else if w' = 1 then (if fp_pr (S.1 t') then 1 else 0) else if w' = 2 then (if fp_si (S.1 t') then 1 else 0) else if w' = 3 then fp_loc (S.1 t') else if ∃ n, fp_sr (S.1 t') n then 1 else 0) = v
  refine ⟨S, v, hok, fp_Cs.same fun I J hC => ?_, fp_Ms.same fun I J hM => ?_⟩
  · rw [e_X6_isOf]
    simp only [c_isT _ ht, fp_oI', Option.bind_some, fp_10, if_false]
    rw [if_neg (nI_pos (by omega)), if_pos (fp_leR (by omega) (by decide))]
    simp only [gr_1_0 hR, ar_2 hR ht, Option.bind_some, k_T (tb_t ht), cond_true, c_isMissing0 (tb_t ht) (hC.1 t' ht) h0 hT.1, fp_oI', if_true]
    have c1 := c_isProper (L := L) (J := J) hR (tb_t ht) (hC.1 t' ht) (hok.1 t' ht)
    have c2 := c_isSilent (L := L) (J := J) hR (tb_t ht) (hC.1 t' ht) (hok.1 t' ht) h0
    have c3 := c_sureNumber (L := L) (J := J) hR (tb_t ht) (hC.1 t' ht) (hok.1 t' ht) h0
    rcases (by omega : w' = 0 ∨ w' = 1 ∨ w' = 2 ∨ w' = 3 ∨ w' = 4) with rfl | rfl | rfl | rfl | rfl
    · rw [← hv]; rfl
    · rw [if_neg (by decide), if_pos (by decide)]
      rw [if_neg (by decide), if_pos rfl] at hv
      by_cases e : fp_pr (S.1 t')
      · rw [if_pos e] at hv; rw [c1.1 e, ← hv]; rfl
      · rw [if_neg e] at hv; rw [c1.2 e, ← hv]; rfl
    · rw [if_neg (by decide), if_neg (by decide), if_pos (by decide)]
      rw [if_neg (by decide), if_neg (by decide), if_pos rfl] at hv
      by_cases e : fp_si (S.1 t')
      · rw [if_pos e] at hv; rw [c2.1 e, ← hv]; rfl
      · rw [if_neg e] at hv; rw [c2.2 e, ← hv]; rfl
    · rw [if_neg (by decide), if_neg (by decide), if_neg (by decide), if_pos (by decide)]
      rw [if_neg (by decide), if_neg (by decide), if_neg (by decide), if_pos rfl] at hv
      rw [c_local hR (tb_t ht) (hC.1 t' ht) (hok.1 t' ht) h0, hv]; rfl
    · rw [if_neg (by decide), if_neg (by decide), if_neg (by decide), if_neg (by decide)]
      rw [if_neg (by decide), if_neg (by decide), if_neg (by decide), if_neg (by decide)] at hv
      by_cases e : ∃ n, fp_sr (S.1 t') n
      · rw [if_pos e] at hv
        obtain ⟨n, hn⟩ := e
        have hl := fp_sr_lt (hok.1 t' ht) hn
        rw [c3.1 n hn, ← hv, fp_oI']
        simp only [Option.bind_some]
        rw [if_neg (nI_pos (by omega))]
      · rw [if_neg e] at hv; rw [c3.2 (fun n q => e ⟨n, q⟩), ← hv]; rfl
  · rw [e_X7_isOf]
    simp only [r_isT _ ht, fp_oI', Option.bind_some, fp_10, if_false, r_isIn1 _ hin, k_45, cond_true, r_isMissing0 hR ht (fp_mt_of hM ht) h0 hT.1, if_true]
    have c1 := r_isProper (L := L) (J := J) hR ht (fp_mt_of hM ht) (hok.1 t' ht)
    have c2 := r_isSilent (L := L) (J := J) hR ht (fp_mt_of hM ht) (hok.1 t' ht) h0
    have c3 := r_sureNumber (L := L) (J := J) hR ht (fp_mt_of hM ht) (hok.1 t' ht) h0
    have f0 : pm_res mX7_isOf 99 [] [.int 0] (fp_m L R I J) = some (.long 0, fp_m L R I J) := by rw [e_X7_isOf_99]; rfl
    have f1 : pm_res mX7_isOf 99 [] [.int 1] (fp_m L R I J) = some (.long 1, fp_m L R I J) := by rw [e_X7_isOf_99]; rfl
    rcases (by omega : w' = 0 ∨ w' = 1 ∨ w' = 2 ∨ w' = 3 ∨ w' = 4) with rfl | rfl | rfl | rfl | rfl
    · rw [← hv, if_neg (by decide), if_pos (by decide), f1]; rfl
    · rw [if_neg (by decide), if_neg (by decide), if_pos (by decide)]
      rw [if_neg (by decide), if_pos rfl] at hv
      by_cases e : fp_pr (S.1 t')
      · rw [if_pos e] at hv; rw [c1.1 e, ← hv]; exact f1
      · rw [if_neg e] at hv; rw [c1.2 e, ← hv]; exact f0
    · rw [if_neg (by decide), if_neg (by decide), if_neg (by decide), if_pos (by decide)]
      rw [if_neg (by decide), if_neg (by decide), if_pos rfl] at hv
      by_cases e : fp_si (S.1 t')
      · rw [if_pos e] at hv; rw [c2.1 e, ← hv]; exact f1
      · rw [if_neg e] at hv; rw [c2.2 e, ← hv]; exact f0
    · rw [if_pos (by decide)]
      rw [if_neg (by decide), if_neg (by decide), if_neg (by decide), if_pos rfl] at hv
      rw [r_local hR ht (fp_mt_of hM ht) (hok.1 t' ht) h0, hv]; rfl
    · rw [if_neg (by decide), if_neg (by decide), if_neg (by decide), if_neg (by decide)]
      rw [if_neg (by decide), if_neg (by decide), if_neg (by decide), if_neg (by decide)] at hv
      by_cases e : ∃ n, fp_sr (S.1 t') n
      · rw [if_pos e] at hv
        obtain ⟨n, hn⟩ := e
        have hl := fp_sr_lt (hok.1 t' ht) hn
        rw [c3.1 n hn, ← hv, fp_oL']
        simp only [Option.bind_some, fp_cmp_eq]
        rw [nI_l (by omega), if_neg (fp_nn (by omega)), f1]
      · rw [if_neg e] at hv
        rw [c3.2 (fun n q => e ⟨n, q⟩), ← hv, fp_oL']
        simp only [Option.bind_some, fp_cmp_eq, if_true]
        exact f0
end FpKind2
