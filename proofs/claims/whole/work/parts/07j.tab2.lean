/-! lose, undo, chance, cell -/
section FpT2
variable {L : Nat} {R : Nat → Nat → Option Nat}
theorem b_lose (hR : fp_RK R) (t : Int32) : fp_Both L R mX6_lose mX7_lose [.int t] := by
  intro S hok
  by_cases h1 : 0 ≤ t.toInt ∧ t.toInt < 8
  case neg =>
    refine ⟨S, pm_BAD, hok, fp_Cs.same fun I J hC => ?_, fp_Ms.same fun I J hM => ?_⟩
    · rw [e_X6_lose, c_isT0 _ h1, fp_oI']; rfl
    · rw [e_X7_lose, r_isT0 _ h1, fp_oI']; rfl
  obtain ⟨t', ht, rfl⟩ := fp_nat (k := 8) h1.1 h1.2 (by decide)
  have hT := fp_okT_q (hok.1 t' ht)
  by_cases h0 : (S.1 t').1 = 0
  · refine ⟨S, pm_NO, hok, fp_Cs.same fun I J hC => ?_, fp_Ms.same fun I J hM => ?_⟩
    · rw [e_X6_lose]
      simp only [c_isT _ ht, fp_oI', Option.bind_some, fp_10, if_false, gr_1_0 hR, ar_2 hR ht, k_T (tb_t ht), cond_true, c_isMissing (tb_t ht) (hC.1 t' ht) h0]
    · rw [e_X7_lose]
      simp only [r_isT _ ht, fp_oI', Option.bind_some, fp_10, if_false, k_45, cond_true, r_isMissing hR ht (fp_mt_of hM ht) h0]
  · refine ⟨fp_chg S t' (0, 0, 0, fun _ => 0), 0, fp_chg_ok hok ht fp_okT_0, fun I J hC => ?_, fun I J hM => ?_⟩
    · obtain ⟨I1, c1, c2, c3⟩ := c_changing (L := L) (J := J) hR ht (hC.1 t' ht) hC.2.1 hok.2.1.1
      obtain ⟨I2, d1, d2, d3⟩ := c_restart (I := I1) (L := L) (J := J) hR (tb_t ht) 0 0 0
      obtain ⟨f1, f2⟩ := c_chg hok hC ht c2 c3 d2 (fun i a b _ => d3 i a b)
      refine ⟨I2, J, ?_, f1, f2⟩
      rw [e_X6_lose]
      simp only [c_isT _ ht, fp_oI', Option.bind_some, fp_10, if_false, gr_1_0 hR, ar_2 hR ht, k_T (tb_t ht), cond_true, c_isMissing0 (tb_t ht) (hC.1 t' ht) h0 hT.1, if_true, k_1, c1, fp_oR']
      rw [show (0 : Int32) = nI 0 from rfl, d1]
      rfl
    · obtain ⟨I1, c1, c2, c3, c4, c5⟩ := r_keep (L := L) (J := J) hR hok.2.1.1 hM.1 hM.2.1.1 hM.2.1.2
      obtain ⟨I2, d1, d2, d3⟩ := r_empty (I := I1) (L := L) (J := J) hR ht 0 0 0
      obtain ⟨f1, f2⟩ := r_chg hok hM ht (T := (0, 0, 0, fun _ => 0)) c2 c3 c4 c5 (fun i hi => by rw [d2 i hi, c4 46 (by decide) (by decide)]) (fun i a _ => d3 i a)
      refine ⟨I2, J, ?_, f1, f2⟩
      rw [e_X7_lose]
      simp only [r_isT _ ht, fp_oI', Option.bind_some, fp_10, if_false, k_45, cond_true, r_isMissing0 hR ht (fp_mt_of hM ht) h0 hT.1, if_true, c1, fp_oV']
      rw [show (0 : Int32) = nI 0 from rfl, d1]
      rfl
theorem b_undo (hR : fp_RK R) : fp_Both L R mX6_undo mX7_undo [] := by
  intro S hok
  obtain ⟨tb, h, rest⟩ := S
  cases h with
  | nil =>
    refine ⟨(tb, [], rest), pm_NO, hok, fp_Cs.same fun I J hC => c_undo0 hR hC.2.1, fp_Ms.same fun I J hM => r_undo0 hM.2.1.1⟩
  | cons p h =>
    have hl : h.length + 1 ≤ 6 := hok.2.1.1
    have hp := hok.2.1.2 p List.mem_cons_self
    refine ⟨(va_up tb p.1 p.2, h, rest), (nI h.length).toInt64, ⟨fun u hu => ?_, ⟨?_, fun q hq => hok.2.1.2 q (List.mem_cons_of_mem _ hq)⟩, hok.2.2⟩, fun I J hC => ?_, fun I J hM => ?_⟩
    · show fp_okT (va_up tb p.1 p.2 u)
      by_cases e : u = p.1
      · rw [e, pm_up_same]; exact hp.2
      · rw [pm_up_other _ _ e]; exact hok.1 u hu
    · show h.length ≤ 6
      omega
    · obtain ⟨I1, c1, c2, c3, c4⟩ := c_undo1 (L := L) (J := J) hR hC.2.1 hok.2.1.1 hp.1
      obtain ⟨g1, g2, ⟨g3, g4, g5⟩, n, num, g6, g7, g8, g9, g10⟩ := hC
      have e : ∀ i, 34 ≤ i → I1 i = I i := fun i a => c4 i (by omega) (by omega) (by omega)
      refine ⟨I1, J, c1, ⟨fun u hu => ?_, c2, ⟨?_, ?_, fun k hk => ?_⟩, n, num, g6, ?_, fun i hi => ?_, g9, g10⟩, fun i hi => c4 i (by omega) (by omega) (by omega)⟩
      · show fp_at I1 (3 + 2 * u) (va_up tb p.1 p.2 u)
        by_cases eq : u = p.1
        · rw [eq, pm_up_same]; exact c3
        · rw [pm_up_other _ _ eq]
          exact fp_at_cong (g1 u hu) (c4 _ (by omega) (by omega) (by omega)) (c4 _ (by omega) (by omega) (by omega))
      · rw [e 34 (by omega)]; exact g3
      · rw [e 34 (by omega)]; exact g4
      · rw [e 35 (by omega)]; exact g5 k hk
      · rw [e 37 (by omega)]; exact g7
      · rw [e 38 (by omega), e 39 (by omega)]; exact g8 i hi
    · obtain ⟨g1, ⟨g2, g3⟩, ⟨g4, g5, g6⟩, g7⟩ := hM
      obtain ⟨I1, c1, c2, c3, c4, c5⟩ := r_undo1 (L := L) (J := J) hR (n := h.length) (by omega) (F := fp_flat (va_up tb p.1 p.2)) g2 (fun i hi => by
        have := g3 0 (by show 0 < h.length + 1; omega) i hi
        exact this)
      refine ⟨I1, J, c1, ⟨c5, ⟨c2, fun j hj i hi => ?_⟩, ⟨?_, ?_, fun k hk => ?_⟩, fun n hn => ?_⟩, fun i hi => c4 i (by omega) (by omega)⟩
      · rw [c4 47 (by decide) (by decide)]
        have hj : j < h.length := hj
        have := g3 (j + 1) (by show j + 1 < h.length + 1; omega) i hi
        refine (congrArg (I 47) ?_).trans this
        show 672 * (h.length - 1 - j) + i = 672 * (h.length + 1 - 1 - (j + 1)) + i
        congr 2
        omega
      · rw [c3 3 (by decide)]; exact g4
      · rw [c3 4 (by decide)]; exact g5
      · rw [c4 48 (by decide) (by decide)]; exact g6 k hk
      · rw [c4 49 (by decide) (by decide)]; exact g7 n hn
theorem b_chance (hR : fp_RK R) (t x y : Int32) : fp_Both L R mX6_chance mX7_chance [.int t, .int x, .int y] := by
  intro S hok
  by_cases h1 : 0 ≤ t.toInt ∧ t.toInt < 8
  case neg =>
    refine ⟨S, pm_BAD, hok, fp_Cs.same fun I J hC => ?_, fp_Ms.same fun I J hM => ?_⟩
    · rw [e_X6_chance, c_isT0 _ h1, fp_oI']; rfl
    · rw [e_X7_chance, k_45, cond_true, r_asked0 h1, fp_oL']; rfl
  obtain ⟨t', ht, rfl⟩ := fp_nat (k := 8) h1.1 h1.2 (by decide)
  have hT := fp_okT_q (hok.1 t' ht)
  by_cases h0 : (S.1 t').1 = 0
  · refine ⟨S, pm_NO, hok, fp_Cs.same fun I J hC => ?_, fp_Ms.same fun I J hM => ?_⟩
    · rw [e_X6_chance]
      simp only [c_isT _ ht, fp_oI', Option.bind_some, fp_10, if_false, gr_1_0 hR, ar_2 hR ht, k_T (tb_t ht), cond_true, c_isMissing (tb_t ht) (hC.1 t' ht) h0]
    · rw [e_X7_chance, k_45, cond_true, r_asked1 hR ht (fp_mt_of hM ht) h0, fp_oL']; rfl
  · by_cases h2 : fp_rowb x (S.1 t').1 ∧ fp_rowb y (S.1 t').2.1
    case neg =>
      refine ⟨S, pm_BAD, hok, fp_Cs.same fun I J hC => ?_, fp_Ms.same fun I J hM => ?_⟩
      · rw [e_X6_chance]
        simp only [c_isT _ ht, fp_oI', Option.bind_some, fp_10, if_false, gr_1_0 hR, ar_2 hR ht, k_T (tb_t ht), cond_true, c_isMissing0 (tb_t ht) (hC.1 t' ht) h0 hT.1, if_true, c_hasRows0 (tb_t ht) (hC.1 t' ht) hT.1 hT.2.1 h2]
      · rw [e_X7_chance, k_45, cond_true, r_asked2 hR ht (fp_mt_of hM ht) h0 hT.1, fp_oL']
        simp only [Option.bind_some, fp_cmp_eq, if_true, k_45, cond_true, r_q hR ht (fp_mt_of hM ht), fp_oI']
        by_cases h3 : fp_rowb x (S.1 t').1
        · simp only [r_isPair _ hT.1 h3, fp_oI', Option.bind_some, fp_10, if_false, k_45, cond_true, r_a hR ht (fp_mt_of hM ht), r_isPair0 _ hT.2.1 (fun q => h2 ⟨h3, q⟩), if_true]
        · simp only [r_isPair0 _ hT.1 h3, fp_oI', Option.bind_some, if_true]
    · obtain ⟨x', x1, x2, x3, rfl⟩ := fp_rowb_of h2.1
      obtain ⟨y', y1, y2, y3, rfl⟩ := fp_rowb_of h2.2
      refine ⟨S, (nI ((S.1 t').2.2.2 (9 * x' + y'))).toInt64, hok, fp_Cs.same fun I J hC => ?_, fp_Ms.same fun I J hM => ?_⟩
      · rw [e_X6_chance]
        simp only [c_isT _ ht, fp_oI', Option.bind_some, fp_10, if_false, gr_1_0 hR, ar_2 hR ht, k_T (tb_t ht), cond_true, c_isMissing0 (tb_t ht) (hC.1 t' ht) h0 hT.1, if_true, c_hasRows (tb_t ht) (hC.1 t' ht) hT.1 hT.2.1 h2.1 h2.2, gr_T hR (tb_t ht), nm_9, nI_add]
        rw [ai_T (tb_t ht) (by omega), (hC.1 t' ht).2.2.2 _ (by omega)]
        rfl
      · rw [e_X7_chance, k_45, cond_true, r_asked2 hR ht (fp_mt_of hM ht) h0 hT.1, fp_oL']
        simp only [Option.bind_some, fp_cmp_eq, if_true, k_45, cond_true, r_q hR ht (fp_mt_of hM ht), fp_oI', r_isPair _ hT.1 h2.1, r_isPair _ hT.2.1 h2.2, r_a hR ht (fp_mt_of hM ht), fp_10, if_false, gr_45_0 hR, nm_84, na_3, nm_9, nI_add]
        rw [show 84 * t' + 3 + 9 * x' + y' = 84 * t' + 3 + (9 * x' + y') by omega, r_cell hR ht (by omega) (fp_mt_of hM ht)]
        rfl
end FpT2
