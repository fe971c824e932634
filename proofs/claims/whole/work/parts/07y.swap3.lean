/-! swap: the reference's loop, and both -/
theorem fp_mS_lt {p o a b j : Nat} (ho : o < 3) (ha : a < 3) (hb : b < 3) (hj : j < 81) : fp_mS p o a b j < 81 := by
  obtain ⟨O, K, V, E, hO, hK, hV, hE, rfl⟩ := fp_spd p hj
  rw [fp_mS_at hO hK hV hE]
  split
  · exact fp_sp_lt ho hK (fp_sw_lt ha hb hV) hE
  · exact hj
/-- cells moved below k -/
def fp_mw (m : Nat → Nat) (k : Nat) (c : Nat → Nat) (j : Nat) : Nat := if j < k then c (m j) else c j
theorem fp_mw_up {m c : Nat → Nat} {k j : Nat} : va_up (fp_mw m k c) k (c (m k)) j = fp_mw m (k + 1) c j := by
  unfold fp_mw va_up
  by_cases e : j = k
  · rw [if_pos e, if_pos (by omega), e]
  · rw [if_neg e]
    by_cases e2 : j < k
    · show (if j < k then _ else _) = _
      rw [if_pos e2, if_pos (by omega)]
    · show (if j < k then _ else _) = _
      rw [if_neg e2, if_neg (by omega)]
section FpSwap3
variable {L : Nat} {R : Nat → Nat → Option Nat} {I : Nat → Nat → Int32} {J : Nat → Nat → Int64}
theorem r_swapTail (hR : fp_RK R) {t k x y i j a b : Nat} (hi : i < 3) (hj : j < 3) (ha : a < 3) (hb : b < 3) (p o : Int32) (f g : Prop) [Decidable f] [Decidable g] : pm_res mX7_swap 174 [(0, .ref 45), (1, .int (nI t)), (3, .int (nI a)), (4, .int (nI b)), (7, .int p), (8, .int o), (9, .int (nI k)), (10, .int (nI x)), (11, .int (nI y)), (12, .int (nI i)), (13, .int (nI j)), (14, .int (fp_b f))] [.int (fp_b g)] (fp_m L R I J) = pm_res mX7_swap 233 [(0, .ref 45), (1, .int (nI t)), (3, .int (nI a)), (4, .int (nI b)), (7, .int p), (8, .int o), (9, .int (nI k))] [.int (nI (if g then fp_sw a b j else j)), .int (nI (if f then fp_sw a b i else i)), .int (nI y), .int (nI x), .ref 50, .int (nI (84 * t + 3 + k)), .ref 46] (fp_m L R I J) := by
  rw [e_X7_swap_174]
  simp only [gr_45_0 hR, gr_45_7 hR, Option.bind_some, nm_84, na_3, nI_add, fp_b_0]
  by_cases hf : f
  · rw [if_neg (not_not_intro hf), if_pos hf, r_swapped _ hi ha hb, fp_oI', Option.bind_some, e_X7_swap_215]
    simp only [fp_b_0]
    by_cases hg : g
    · rw [if_neg (not_not_intro hg), if_pos hg, r_swapped _ hj ha hb, fp_oI', Option.bind_some]
    · rw [if_pos hg, if_neg hg]
  · rw [if_pos hf, if_neg hf, e_X7_swap_215]
    simp only [fp_b_0]
    by_cases hg : g
    · rw [if_neg (not_not_intro hg), if_pos hg, r_swapped _ hj ha hb, fp_oI', Option.bind_some]
    · rw [if_pos hg, if_neg hg]
theorem r_swapHead {t k a b p o : Nat} (hk : k < 81) (hp : p < 2) (ho : o < 3) (M : pm_M) : pm_res mX7_swap 100 [(0, .ref 45), (1, .int (nI t)), (3, .int (nI a)), (4, .int (nI b)), (7, .int (nI p)), (8, .int (nI o)), (9, .int (nI k))] [] M = pm_res mX7_swap 174 [(0, .ref 45), (1, .int (nI t)), (3, .int (nI a)), (4, .int (nI b)), (7, .int (nI p)), (8, .int (nI o)), (9, .int (nI k)), (10, .int (nI (k / 27))), (11, .int (nI (k / 9 % 3))), (12, .int (nI (k / 3 % 3))), (13, .int (nI (k % 3))), (14, .int (fp_b (p = 0 ∧ k / 27 = o)))] [.int (fp_b (p = 1 ∧ k / 9 % 3 = o))] M := by
  rw [e_X7_swap_100, if_neg (fp_ge hk (by decide)), nd_27 (by omega), nd_9 (by omega), nd_3 (by omega), nq_3 (by omega), nq_3 (by omega), nq_3 (show k < 2 ^ 31 by omega)]
  rcases (by omega : p = 0 ∨ p = 1) with rfl | rfl
  · rw [if_pos (show nI 0 = 0 from rfl), fp_b_f (p := 0 = 1 ∧ k / 9 % 3 = o) (by omega)]
    by_cases e : k / 27 = o
    · rw [if_pos (by rw [e]), e_X7_swap_154, if_neg (by decide), fp_b_t ⟨rfl, e⟩]
    · rw [if_neg (by rw [nI_eq (by omega) (by omega)]; exact e), e_X7_swap_154, if_neg (by decide), fp_b_f (fun g => e g.2)]
  · rw [if_neg (show ¬ nI 1 = 0 by decide), e_X7_swap_154, if_pos (show nI 1 = 1 from rfl), fp_b_f (p := 1 = 0 ∧ k / 27 = o) (by omega)]
    by_cases e : k / 9 % 3 = o
    · rw [if_pos (by rw [e]), fp_b_t ⟨rfl, e⟩]
    · rw [if_neg (by rw [nI_eq (by omega) (by omega)]; exact e), fp_b_f (fun g => e g.2)]
theorem fp_mS_k {p o a b k : Nat} (hp : p < 2) : 27 * (k / 27) + 9 * (k / 9 % 3) + 3 * (if p = 0 ∧ k / 27 = o then fp_sw a b (k / 3 % 3) else k / 3 % 3) + (if p = 1 ∧ k / 9 % 3 = o then fp_sw a b (k % 3) else k % 3) = fp_mS p o a b k := by
  unfold fp_mS fp_O fp_K fp_V fp_E fp_sp
  rcases (by omega : p = 0 ∨ p = 1) with rfl | rfl
  · rw [if_neg (show ¬ (0 = 1 ∧ k / 9 % 3 = o) by omega)]
    simp only [if_true]
    by_cases e : k / 27 = o
    · rw [if_pos ⟨trivial, e⟩, if_pos e, e]
    · rw [if_neg (fun g => e g.2), if_neg e]
      omega
  · rw [if_neg (show ¬ (1 = 0 ∧ k / 27 = o) by omega)]
    simp only [if_neg (show ¬ (1 = 0) by decide)]
    by_cases e : k / 9 % 3 = o
    · rw [if_pos ⟨trivial, e⟩, if_pos e, e]
    · rw [if_neg (fun g => e g.2), if_neg e]
      omega
theorem r_swapLoop (hR : fp_RK R) {t p o a b : Nat} (ht : t < 8) (hp : p < 2) (ho : o < 3) (ha : a < 3) (hb : b < 3) {I0 : Nat → Nat → Int32} {q A w : Nat} {c : Nat → Nat} (h : fp_rt I0 I t (q, A, w, c)) (hJ : ∀ j, j < 81 → J 50 j = lN (c j)) : ∃ I', pm_res mX7_swap 100 [(0, .ref 45), (1, .int (nI t)), (3, .int (nI a)), (4, .int (nI b)), (7, .int (nI p)), (8, .int (nI o)), (9, .int 0)] [] (fp_m L R I J) = some (.long 0, fp_m L R I' J) ∧ fp_rt I0 I' t (q, A, w, fp_mv (fp_mS p o a b) c) := by
  obtain ⟨I2, p2, e2⟩ := fp_li0 (fun k (I' : Nat → Nat → Int32) => pm_res mX7_swap 100 [(0, .ref 45), (1, .int (nI t)), (3, .int (nI a)), (4, .int (nI b)), (7, .int (nI p)), (8, .int (nI o)), (9, .int (nI k))] [] (fp_m L R I' J)) (fun k I' => fp_rt I0 I' t (q, A, w, fp_mw (fp_mS p o a b) k c)) 81 (fun k I' hk pp => by
    refine ⟨_, fp_rt_cg (fp_rt_up ht (j := k) (v := c (fp_mS p o a b k)) hk pp) (fun j hj => fp_mw_up), ?_⟩
    have hlt := fp_mS_lt (p := p) ho ha hb hk
    rw [r_swapHead hk hp ho, r_swapTail hR (by omega) (by omega) ha hb, e_X7_swap_233, r_place, fp_oI']
    simp only [Option.bind_some]
    rw [fp_mS_k hp, ai_50 hlt, Option.bind_some, hJ _ hlt, lN_i, si_46 (by omega), Option.bind_some, nI_1]) (s := I) (fp_rt_cg h (fun j _ => (if_neg (Nat.not_lt_zero j)).symm))
  refine ⟨I2, ?_, fp_rt_cg p2 (fun j hj => ?_)⟩
  · refine (show pm_res mX7_swap 100 [(0, .ref 45), (1, .int (nI t)), (3, .int (nI a)), (4, .int (nI b)), (7, .int (nI p)), (8, .int (nI o)), (9, .int 0)] [] (fp_m L R I J) = _ from e2).trans ?_
    rw [e_X7_swap_100, if_pos (fp_le (Nat.le_refl _) (by decide))]
  · unfold fp_mw fp_mv
    rw [if_pos hj, if_pos hj]
theorem c_isAnswer {r : Nat} (hr : fp_tb r) {T : fp_T} (hT : fp_at I r T) (ha : T.2.1 ≤ 3) (x : Int32) : pm_C mX5_isAnswer [.ref r, .int x] (fp_m L R I J) = some (.int (fp_b (0 ≤ x.toInt ∧ x.toInt < (T.2.1 : Int))), fp_m L R I J) := by
  rw [e_X5_isAnswer, gi_T hr, hT.2.1, Option.bind_some]
  simp only [Int32.lt_iff_toInt_lt, Int32.le_iff_toInt_le]
  rw [nI_toInt (by omega)]
  unfold fp_b
  repeat' split
  all_goals first | rfl | (exfalso; simp at *; omega)
theorem r_in (M : pm_M) {x : Int32} {k : Int64} {n : Nat} (hk : k.toInt = (n : Int)) : pm_C mX7_isIn [.long x.toInt64, .long 0, .long k] M = some (.int (fp_b (0 ≤ x.toInt ∧ x.toInt < (n : Int) + 1)), M) := by
  rw [r_isIn, fp_w, hk]
  unfold fp_b
  exact congrArg (fun z => some (Value.int z, M)) (fp_ifc ⟨fun g => ⟨g.1, by omega⟩, fun g => ⟨g.1, by omega⟩⟩)
theorem r_inA (M : pm_M) {x : Int32} {n : Nat} (h1 : 1 ≤ n) (hn : n < 2 ^ 31) : pm_C mX7_isIn [.long x.toInt64, .long 0, .long (nI n - 1).toInt64] M = some (.int (fp_b (0 ≤ x.toInt ∧ x.toInt < (n : Int))), M) := by
  rw [ns_1 h1, r_in M (n := n - 1) (by rw [fp_w, nI_toInt (by omega)])]
  unfold fp_b
  exact congrArg (fun z => some (Value.int z, M)) (fp_ifc ⟨fun g => ⟨g.1, by omega⟩, fun g => ⟨g.1, by omega⟩⟩)
theorem b_swap (hR : fp_RK R) (t w a b : Int32) : fp_Both L R mX6_swap mX7_swap [.int t, .int w, .int a, .int b] := by
  intro S hok
  by_cases h1 : 0 ≤ t.toInt ∧ t.toInt < 8
  case neg =>
    refine ⟨S, pm_BAD, hok, fp_Cs.same fun I J hC => ?_, fp_Ms.same fun I J hM => ?_⟩
    · rw [e_X6_swap, c_isT0 _ h1, fp_oI']; rfl
    · rw [e_X7_swap, k_45, cond_true, r_asked0 h1, fp_oL']; rfl
  obtain ⟨t', ht, rfl⟩ := fp_nat (k := 8) h1.1 h1.2 (by decide)
  have hT := fp_okT_q (hok.1 t' ht)
  by_cases h0 : (S.1 t').1 = 0
  · refine ⟨S, pm_NO, hok, fp_Cs.same fun I J hC => ?_, fp_Ms.same fun I J hM => ?_⟩
    · rw [e_X6_swap]
      simp only [c_isT _ ht, fp_oI', Option.bind_some, fp_10, if_false, gr_1_0 hR, ar_2 hR ht, k_T (tb_t ht), cond_true, c_isMissing (tb_t ht) (hC.1 t' ht) h0]
    · rw [e_X7_swap, k_45, cond_true, r_asked1 hR ht (fp_mt_of hM ht) h0, fp_oL']; rfl
  obtain ⟨q1, q2, q3, q4, q5, q6, q7, q8⟩ := fp_okT_1 (hok.1 t' ht) h0
  have eC : ∀ I J, fp_CR S I → pm_C mX6_swap [.ref 1, .int (nI t'), .int w, .int a, .int b] (fp_m L R I J) = if w < 0 then some (.long pm_BAD, fp_m L R I J) else if w < 6 then (if nI (S.1 t').1 ≤ pm_rem w 3 then some (.long pm_BAD, fp_m L R I J) else if ¬ (0 ≤ a.toInt ∧ a.toInt < ((S.1 t').2.1 : Int)) then some (.long pm_BAD, fp_m L R I J) else if ¬ (0 ≤ b.toInt ∧ b.toInt < ((S.1 t').2.1 : Int)) then some (.long pm_BAD, fp_m L R I J) else (pm_oR (pm_C mX6_changing [.ref 1, .int (nI t')] (fp_m L R I J))).bind fun q8 => bif pm_kd q8.2 5 q8.1 then ((pm_oV (pm_C mX5_exchangeAnswers [.ref q8.1, .int (w / 3), .int (pm_rem w 3), .int a, .int b] q8.2)).bind fun m9 => some (.long 0, m9)) else none) else some (.long pm_BAD, fp_m L R I J) := by
    intro I J hC
    rw [e_X6_swap]
    simp only [c_isT _ ht, fp_oI', Option.bind_some, fp_10, if_false, gr_1_0 hR, ar_2 hR ht, k_T (tb_t ht), cond_true, c_isMissing0 (tb_t ht) (hC.1 t' ht) h0 hT.1, if_true, gi_T (tb_t ht), (hC.1 t' ht).1, c_isAnswer (tb_t ht) (hC.1 t' ht) hT.2.1, fp_b_0, k_1]
  have eM : ∀ I J, fp_MR S I → pm_C mX7_swap [.ref 45, .int (nI t'), .int w, .int a, .int b] (fp_m L R I J) = if ¬ (0 ≤ w.toInt ∧ w.toInt < 6) then some (.long pm_BAD, fp_m L R I J) else if nI (S.1 t').1 ≤ pm_rem w 3 then some (.long pm_BAD, fp_m L R I J) else if ¬ (0 ≤ a.toInt ∧ a.toInt < ((S.1 t').2.1 : Int)) then some (.long pm_BAD, fp_m L R I J) else if ¬ (0 ≤ b.toInt ∧ b.toInt < ((S.1 t').2.1 : Int)) then some (.long pm_BAD, fp_m L R I J) else (pm_oV (pm_C mX7_keep [.ref 45] (fp_m L R I J))).bind fun m8 => bif pm_kd m8 7 45 then ((pm_oV (pm_C mX7_takeAside [.ref 45, .int (nI t')] m8)).bind fun m9 => pm_res mX7_swap 100 [(0, .ref 45), (1, .int (nI t')), (3, .int a), (4, .int b), (7, .int (w / 3)), (8, .int (pm_rem w 3)), (9, .int 0)] [] m9) else none := by
    intro I J hM
    rw [e_X7_swap, k_45, cond_true, r_asked2 hR ht (fp_mt_of hM ht) h0 hT.1, fp_oL']
    simp only [Option.bind_some, fp_cmp_eq, if_true, k_45, cond_true, r_q hR ht (fp_mt_of hM ht), fp_oI', r_a hR ht (fp_mt_of hM ht), r_in _ (x := w) (k := 5) (n := 5) (by decide), r_inA _ (x := a) (show 1 ≤ (S.1 t').2.1 by omega) (by omega), r_inA _ (x := b) (show 1 ≤ (S.1 t').2.1 by omega) (by omega), fp_b_0]
    rfl
  by_cases h2 : 0 ≤ w.toInt ∧ w.toInt < 6
  case neg =>
    refine ⟨S, pm_BAD, hok, fp_Cs.same fun I J hC => ?_, fp_Ms.same fun I J hM => ?_⟩
    · rw [eC I J hC]
      by_cases h3 : w < 0
      · rw [if_pos h3]
      · rw [if_neg h3, if_neg]
        simp only [Int32.lt_iff_toInt_lt] at h3 ⊢
        simp at h3 ⊢
        omega
    · rw [eM I J hM, if_pos h2]
  obtain ⟨w', hw, rfl⟩ := fp_nat (k := 6) h2.1 h2.2 (by decide)
  by_cases h3 : w' % 3 < (S.1 t').1
  case neg =>
    refine ⟨S, pm_BAD, hok, fp_Cs.same fun I J hC => ?_, fp_Ms.same fun I J hM => ?_⟩
    · rw [eC I J hC, if_neg (nI_pos (by omega)), if_pos (fp_ltR hw (by decide)), nq_3 (by omega), if_pos (nI_le (by omega) (by omega))]
    · rw [eM I J hM, if_neg (not_not_intro h2), nq_3 (by omega), if_pos (nI_le (by omega) (by omega))]
  by_cases h4 : 0 ≤ a.toInt ∧ a.toInt < ((S.1 t').2.1 : Int)
  case neg =>
    refine ⟨S, pm_BAD, hok, fp_Cs.same fun I J hC => ?_, fp_Ms.same fun I J hM => ?_⟩
    · rw [eC I J hC, if_neg (nI_pos (by omega)), if_pos (fp_ltR hw (by decide)), nq_3 (by omega), if_neg (nI_ge h3 (by omega)), if_pos h4]
    · rw [eM I J hM, if_neg (not_not_intro h2), nq_3 (by omega), if_neg (nI_ge h3 (by omega)), if_pos h4]
  by_cases h5 : 0 ≤ b.toInt ∧ b.toInt < ((S.1 t').2.1 : Int)
  case neg =>
    refine ⟨S, pm_BAD, hok, fp_Cs.same fun I J hC => ?_, fp_Ms.same fun I J hM => ?_⟩
    · rw [eC I J hC, if_neg (nI_pos (by omega)), if_pos (fp_ltR hw (by decide)), nq_3 (by omega), if_neg (nI_ge h3 (by omega)), if_neg (not_not_intro h4), if_pos h5]
    · rw [eM I J hM, if_neg (not_not_intro h2), nq_3 (by omega), if_neg (nI_ge h3 (by omega)), if_neg (not_not_intro h4), if_pos h5]
  obtain ⟨a', ha, rfl⟩ := fp_nat (k := (S.1 t').2.1) h4.1 h4.2 (by omega)
  obtain ⟨b', hb, rfl⟩ := fp_nat (k := (S.1 t').2.1) h5.1 h5.2 (by omega)
  have hp : w' / 3 < 2 := by omega
  refine ⟨fp_chg S t' ((S.1 t').1, (S.1 t').2.1, (S.1 t').2.2.1, fp_mv (fp_mS (w' / 3) (w' % 3) a' b') (S.1 t').2.2.2), 0, fp_chg_ok hok ht (fp_mv_ok (hok.1 t' ht) h0 (fun j hj g => fp_mS_in (by omega) ha hb q4 hj g)), fun I J hC => ?_, fun I J hM => ?_⟩
  · obtain ⟨I1, c1, c2, c3⟩ := c_changed (L := L) (J := J) hR hok hC ht
    obtain ⟨I2, d1, d2, d3⟩ := c_exAnswers (L := L) (I := I1) (J := J) hR (tb_t ht) (fp_at_cong (hC.1 t' ht) (c2 _ (by omega)) (c2 _ (by omega))) (hok.1 t' ht) h0 hp h3 ha hb
    obtain ⟨f1, f2⟩ := c3 _ I2 d2 (fun i g1 g2 _ => d3 i g1 g2)
    refine ⟨I2, J, ?_, f1, f2⟩
    rw [eC I J hC, if_neg (nI_pos (by omega)), if_pos (fp_ltR hw (by decide)), nq_3 (by omega), nd_3 (by omega), if_neg (nI_ge h3 (by omega)), if_neg (not_not_intro h4), if_neg (not_not_intro h5), c1, fp_oR']
    simp only [Option.bind_some, k_T (tb_t ht), cond_true, d1, fp_oV']
  · obtain ⟨I1, c1, c2, c3, c4⟩ := r_kept (L := L) (J := J) hR hok hM
    have hmt : fp_mt I1 t' (S.1 t') := fun o ho => by rw [c2 46 (by decide) (by decide)]; exact fp_mt_of hM ht o ho
    obtain ⟨J2, d1, d2⟩ := r_takeAside (L := L) (I := I1) (J := J) hR ht hmt (fun j => Nat.lt_of_le_of_lt (Nat.le_trans (hT.2.2.2 j) hT.2.2.1) (by decide))
    obtain ⟨I3, g1, g2⟩ := r_swapLoop (L := L) (I := I1) (J := J2) hR ht hp (show w' % 3 < 3 by omega) (show a' < 3 by omega) (show b' < 3 by omega) (fp_rt_rf hmt) d2
    obtain ⟨f1, f2⟩ := c4 t' ht _ I3 g2
    refine ⟨I3, J2, ?_, f1, f2⟩
    rw [eM I J hM, if_neg (not_not_intro h2), nq_3 (by omega), nd_3 (by omega), if_neg (nI_ge h3 (by omega)), if_neg (not_not_intro h4), if_neg (not_not_intro h5), c1, fp_oV']
    simp only [Option.bind_some, k_45, cond_true, d1, fp_oV']
    exact g1
end FpSwap3
