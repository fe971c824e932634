/-! shares and counts -/
theorem fp_sm_up {g : Nat → Nat} {j : Nat} : ∀ {N : Nat}, j < N → fp_sm g N = fp_sm (va_up g j 0) N + g j
  | 0, h => absurd h (Nat.not_lt_zero j)
  | N + 1, h => by
    rw [fp_sm, fp_sm]
    by_cases e : j = N
    · subst e
      rw [pm_up_same, fp_sm_cong (g := va_up g j 0) j (fun i hi => (pm_up_other _ _ (by omega)).symm)]
      omega
    · have := fp_sm_up (g := g) (j := j) (N := N) (by omega)
      rw [pm_up_other _ _ (show N ≠ j by omega)]
      omega
theorem fp_sm_0 {g : Nat → Nat} : ∀ {N : Nat}, (∀ k, k < N → g k = 0) → fp_sm g N = 0
  | 0, _ => rfl
  | N + 1, h => by rw [fp_sm, fp_sm_0 (fun k hk => h k (by omega)), h N (by omega)]
theorem fp_reidx {num : Nat → Nat} {N : Nat} : ∀ {n : Nat} {g : Nat → Nat}, (∀ i, i < n → num i < N) → (∀ i j, i < n → j < n → num i = num j → i = j) → (∀ k, k < N → g k ≠ 0 → ∃ i, i < n ∧ num i = k) → fp_sm g N = fp_sm (fun i => g (num i)) n
  | 0, g, _, _, h3 => fp_sm_0 (fun k hk => by
    apply Classical.byContradiction
    intro q
    obtain ⟨i, hi, _⟩ := h3 k hk q
    omega)
  | n + 1, g, h1, h2, h3 => by
    rw [fp_sm_up (h1 n (by omega)), fp_sm, fp_reidx (n := n) (g := va_up g (num n) 0) (fun i hi => h1 i (by omega)) (fun i j hi hj => h2 i j (by omega) (by omega)) (fun k hk hne => by
      by_cases e : k = num n
      · rw [e, pm_up_same] at hne; exact absurd rfl hne
      · rw [pm_up_other _ _ e] at hne
        obtain ⟨i, hi, he⟩ := h3 k hk hne
        refine ⟨i, ?_, he⟩
        rcases (by omega : i < n ∨ i = n) with q | q
        · exact q
        · rw [q] at he; exact absurd he.symm e)]
    congr 1
    exact fp_sm_cong n (fun i hi => pm_up_other _ _ (fun e => by have := h2 i n (by omega) (by omega) e; omega))
def fp_nz (s : Nat → Nat) (j : Nat) : Nat := if s j = 0 then 0 else 1
theorem fp_nz_sum {s : Nat → Nat} {num : Nat → Nat} : ∀ n, (∀ i, i < n → s (num i) ≠ 0) → fp_sm (fun i => fp_nz s (num i)) n = n
  | 0, _ => rfl
  | n + 1, h => by
    rw [fp_sm, fp_nz_sum n (fun i hi => h i (by omega))]
    unfold fp_nz
    rw [if_neg (h n (by omega))]
theorem fp_sh_many {I : Nat → Nat → Int32} {s : Nat → Nat} (h : fp_shC I s) : fp_sm (fp_nz s) 729 ≤ 30 ∧ I 37 2 = nI (fp_sm (fp_nz s) 729) := by
  obtain ⟨n, num, h1, h2, h3, h4, h5⟩ := h
  have e : fp_sm (fp_nz s) 729 = n := by
    rw [fp_reidx (g := fp_nz s) (num := num) (n := n) (fun i hi => (h3 i hi).2.2.2) h4 (fun k _ hk => h5 k (fun g => hk (if_pos g)))]
    exact fp_nz_sum n (fun i hi => (h3 i hi).2.2.1)
  rw [e]
  exact ⟨h1, h2⟩
section FpShare
variable {L : Nat} {R : Nat → Nat → Option Nat} {I : Nat → Nat → Int32} {J : Nat → Nat → Int64}
theorem c_sures {q a : Nat} (h0 : I 34 0 = nI q) (h1 : I 34 1 = nI a) (hq : q ≤ 3) : pm_C mX3_sures [.ref 34] (fp_m L R I J) = some (.int (nI (a ^ (2 * q))), fp_m L R I J) := by
  rw [e_X3_sures]
  simp only [gi_34, h0, h1, Option.bind_some, c_sureTables _ hq, fp_oI']
theorem r_sures {q a : Nat} (h0 : I 45 3 = nI q) (h1 : I 45 4 = nI a) (hq : q ≤ 3) : pm_C mX7_sures [.ref 45] (fp_m L R I J) = some (.int (nI (a ^ (2 * q))), fp_m L R I J) := by
  rw [e_X7_sures]
  simp only [gi_45, h0, h1, Option.bind_some, nm_2]
  rw [r_power _ _ _ (by omega), fp_oI']
  rfl
theorem r_many (hR : fp_RK R) {s : Nat → Nat} (h : ∀ n, n < 729 → I 49 n = nI (s n)) (hs : ∀ n, s n ≤ 1000000) : pm_C mX7_manyShares [.ref 45] (fp_m L R I J) = some (.int (nI (fp_sm (fp_nz s) 729)), fp_m L R I J) := by
  have key := fp_lp0 (fun i => pm_res mX7_manyShares 4 [(0, .ref 45), (1, .int (nI (fp_sm (fp_nz s) i))), (2, .int (nI i))] [] (fp_m L R I J)) 729 (fun i hi => by
    have := hs i
    rw [e_X7_manyShares_4, if_neg (fp_ge hi (by decide))]
    simp only [gr_45_6 hR, Option.bind_some, ai_49 hi, h i hi, nI_1, fp_sm]
    unfold fp_nz
    by_cases h0 : s i = 0
    · rw [if_pos (fp_eqR h0), if_pos h0, Int32.add_zero]
      rfl
    · rw [if_neg (fp_ne h0 (by omega) (by decide)), if_neg h0])
  rw [e_X7_manyShares]
  refine (show pm_res mX7_manyShares 4 [(0, .ref 45), (1, .int 0), (2, .int 0)] [] (fp_m L R I J) = _ from key).trans ?_
  rw [e_X7_manyShares_4, if_pos (fp_le (Nat.le_refl _) (by decide))]
theorem r_all (hR : fp_RK R) {s : Nat → Nat} (h : ∀ n, n < 729 → I 49 n = nI (s n)) (hs : ∀ n, s n ≤ 1000000) : pm_C mX7_allShares [.ref 45] (fp_m L R I J) = some (.long (lN (fp_sm s 729)), fp_m L R I J) := by
  have key := fp_lp0 (fun i => pm_res mX7_allShares 4 [(0, .ref 45), (1, .long (lN (fp_sm s i))), (3, .int (nI i))] [] (fp_m L R I J)) 729 (fun i hi => by
    have := hs i
    rw [e_X7_allShares_4, if_neg (fp_ge hi (by decide))]
    simp only [gr_45_6 hR, Option.bind_some, ai_49 hi, h i hi, nI_1, fp_sm]
    rw [nI_l (by omega), lN_add])
  rw [e_X7_allShares]
  refine (show pm_res mX7_allShares 4 [(0, .ref 45), (1, .long 0), (3, .int 0)] [] (fp_m L R I J) = _ from key).trans ?_
  rw [e_X7_allShares_4, if_pos (fp_le (Nat.le_refl _) (by decide))]
theorem c_together (hR : fp_RK R) {s : Nat → Nat} (h : fp_shC I s) (hs : ∀ n, s n ≤ 1000000) : pm_C mX4_together [.ref 37] (fp_m L R I J) = some (.long (lN (fp_sm s 729)), fp_m L R I J) := by
  obtain ⟨n, num, h1, h2, h3, h4, h5⟩ := h
  have key := fp_lp0 (fun i => pm_res mX4_together 4 [(0, .ref 37), (1, .long (lN (fp_sm (fun i => s (num i)) i))), (3, .int (nI i))] [] (fp_m L R I J)) n (fun i hi => by
    have := hs (num i)
    rw [e_X4_together_4]
    simp only [gi_37, h2, Option.bind_some]
    rw [if_neg (nI_ge hi (by omega))]
    simp only [gr_37_1 hR, Option.bind_some]
    rw [ai_39 (by omega), Option.bind_some, (h3 i hi).2.1, nI_l (by omega), lN_add, nI_1]
    rfl)
  rw [e_X4_together, fp_reidx (g := s) (num := num) (n := n) (fun i hi => (h3 i hi).2.2.2) h4 (fun k _ hk => h5 k hk)]
  refine (show pm_res mX4_together 4 [(0, .ref 37), (1, .long 0), (3, .int 0)] [] (fp_m L R I J) = _ from key).trans ?_
  rw [e_X4_together_4]
  simp only [gi_37, h2, Option.bind_some]
  rw [if_pos (nI_le (Nat.le_refl _) (by omega))]
theorem c_find (hR : fp_RK R) {n m : Nat} {num : Nat → Nat} (hn : n ≤ 30) (hm : m < 729) (h2 : I 37 2 = nI n) (h3 : ∀ i, i < n → I 38 i = nI (num i) ∧ num i < 729) : (∃ i, i < n ∧ num i = m ∧ pm_C mX4_find [.ref 37, .int (nI m)] (fp_m L R I J) = some (.int (nI i), fp_m L R I J)) ∨ ((∀ i, i < n → num i ≠ m) ∧ pm_C mX4_find [.ref 37, .int (nI m)] (fp_m L R I J) = some (.int (-1), fp_m L R I J)) := by
  have loop := fp_lpx (fun i => pm_res mX4_find 2 [(0, .ref 37), (1, .int (nI m)), (2, .int (nI i))] [] (fp_m L R I J)) (fun i => num i = m) (fun i => some (.int (nI i), fp_m L R I J)) n (fun i hi => by
    have := (h3 i hi).2
    rw [e_X4_find_2]
    simp only [gi_37, h2, Option.bind_some]
    rw [if_neg (nI_ge hi (by omega))]
    simp only [gr_37_0 hR, Option.bind_some]
    rw [ai_38 (by omega), Option.bind_some, (h3 i hi).1, nI_1]
    exact fp_ifc (nI_eq (by omega) (by omega)))
  rw [e_X4_find]
  rcases loop with ⟨i, g1, g2, -, g3⟩ | ⟨g1, g2⟩
  · exact Or.inl ⟨i, g1, g2, g3⟩
  · refine Or.inr ⟨g1, (show pm_res mX4_find 2 [(0, .ref 37), (1, .int (nI m)), (2, .int 0)] [] (fp_m L R I J) = _ from g2).trans ?_⟩
    rw [e_X4_find_2]
    simp only [gi_37, h2, Option.bind_some]
    rw [if_pos (nI_le (Nat.le_refl _) (by omega))]
theorem c_putSet (hR : fp_RK R) {i v : Nat} (hi : i < 30) (h0 : v ≠ 0) (hv : v ≤ 1000000) (m : Int32) : pm_C mX4_put [.ref 37, .int (nI i), .int m, .int (nI v)] (fp_m L R I J) = some (.null, fp_m L R (va_up I 39 (va_up (I 39) i (nI v))) J) := by
  rw [e_X4_put, if_neg (nI_pos (by omega)), if_neg (fp_ne h0 (by omega) (by decide)), e_X4_put_51, if_neg (nI_pos (by omega))]
  simp only [gr_37_1 hR, Option.bind_some, si_39 hi]
theorem c_putDel (hR : fp_RK R) {i n : Nat} (hi : i < n) (hn : n ≤ 30) (h2 : I 37 2 = nI n) (m : Int32) : pm_C mX4_put [.ref 37, .int (nI i), .int m, .int (nI 0)] (fp_m L R I J) = some (.null, fp_m L R (va_up (va_up (va_up I 37 (va_up (I 37) 2 (nI (n - 1)))) 38 (va_up (I 38) i (I 38 (n - 1)))) 39 (va_up (I 39) i (I 39 (n - 1)))) J) := by
  rw [e_X4_put, if_neg (nI_pos (by omega)), if_pos (show nI 0 = 0 from rfl)]
  simp only [gi_37, h2, Option.bind_some, pi_37]
  rw [ns_1 (by omega)]
  simp only [gr_37_0 hR, gi_37, Option.bind_some, pm_up_same]
  rw [ai_38 (by omega), Option.bind_some, si_38 (by omega), Option.bind_some]
  simp only [gr_37_1 hR, gi_37, Option.bind_some, pm_up_same, pm_up_other _ _ (show (37 : Nat) ≠ 38 by decide)]
  rw [ai_39 (by omega), Option.bind_some, si_39 (by omega), Option.bind_some]
  simp only [pm_up_other _ _ (show (38 : Nat) ≠ 37 by decide), pm_up_other _ _ (show (39 : Nat) ≠ 38 by decide), pm_up_other _ _ (show (39 : Nat) ≠ 37 by decide)]
theorem c_putNew (hR : fp_RK R) {n v : Nat} (hn : n < 30) (h2 : I 37 2 = nI n) (h0 : v ≠ 0) (hv : v ≤ 1000000) (m : Int32) : pm_C mX4_put [.ref 37, .int (-1), .int m, .int (nI v)] (fp_m L R I J) = some (.null, fp_m L R (va_up (va_up (va_up I 38 (va_up (I 38) n m)) 39 (va_up (I 39) n (nI v))) 37 (va_up (I 37) 2 (nI (n + 1)))) J) := by
  rw [e_X4_put, if_pos (by decide), e_X4_put_51, if_pos (by decide), if_neg (fp_ne h0 (by omega) (by decide))]
  simp only [gi_37, h2, Option.bind_some]
  rw [if_neg (fp_ge hn (by decide))]
  simp only [gr_37_0 hR, gi_37, h2, Option.bind_some]
  rw [si_38 hn, Option.bind_some]
  simp only [gr_37_1 hR, gi_37, Option.bind_some, pm_up_other _ _ (show (37 : Nat) ≠ 38 by decide), h2]
  rw [si_39 hn, Option.bind_some]
  simp only [gi_37, pi_37, Option.bind_some, pm_up_other _ _ (show (37 : Nat) ≠ 39 by decide), pm_up_other _ _ (show (37 : Nat) ≠ 38 by decide), pm_up_other _ _ (show (39 : Nat) ≠ 38 by decide), h2, nI_1]
theorem c_putNot (m : Int32) (M : pm_M) : pm_C mX4_put [.ref 37, .int (-1), .int m, .int (nI 0)] M = some (.null, M) := by
  rw [e_X4_put, if_pos (by decide), e_X4_put_51, if_pos (by decide), if_pos (show nI 0 = 0 from rfl)]
theorem b_share (hR : fp_RK R) (x v : Int32) : fp_Both L R mX6_share mX7_share [.int x, .int v] := by
  intro S hok
  obtain ⟨q1, q2, q3, q4, q5, q6⟩ := hok.2.2.1
  obtain ⟨s1, s2⟩ := hok.2.2.2
  have hpw := fp_pw6 q4 q2
  have hpos : 0 < S.2.2.2.1 ^ (2 * S.2.2.1) := Nat.pow_pos (by omega)
  have eC : ∀ I J, fp_CR S I → pm_C mX6_share [.ref 1, .int x, .int v] (fp_m L R I J) = if x < 0 then some (.long pm_BAD, fp_m L R I J) else if nI (S.2.2.2.1 ^ (2 * S.2.2.1)) ≤ x then some (.long pm_BAD, fp_m L R I J) else if v < 0 then some (.long pm_BAD, fp_m L R I J) else if v ≤ 1000000 then ((pm_oI (pm_C mX4_find [.ref 37, .int x] (fp_m L R I J))).bind fun q4 => if 0 ≤ q4.1 then (pm_res mX6_share 62 [(0, .ref 1), (1, .int x), (2, .int v), (3, .int q4.1)] [] q4.2) else (if v = 0 then (pm_res mX6_share 62 [(0, .ref 1), (1, .int x), (2, .int v), (3, .int q4.1)] [] q4.2) else ((pm_gR q4.2 6 3 1).bind fun g5 => (pm_gI q4.2 4 2 g5).bind fun g6 => if g6 < 30 then (pm_res mX6_share 62 [(0, .ref 1), (1, .int x), (2, .int v), (3, .int q4.1)] [] q4.2) else (some (.long pm_FULL, q4.2))))) else some (.long pm_BAD, fp_m L R I J) := by
    intro I J hC
    rw [e_X6_share]
    simp only [gr_1_2 hR, Option.bind_some, k_34, cond_true, c_sures hC.2.2.1.1 hC.2.2.1.2.1 q2, fp_oI', gr_1_3 hR, k_37]
  have eM : ∀ I J, fp_MR S I → pm_C mX7_share [.ref 45, .int x, .int v] (fp_m L R I J) = if ¬ (0 ≤ x.toInt ∧ x.toInt < ((S.2.2.2.1 ^ (2 * S.2.2.1) : Nat) : Int)) then some (.long pm_BAD, fp_m L R I J) else if ¬ (0 ≤ v.toInt ∧ v.toInt < ((1000000 : Nat) : Int) + 1) then some (.long pm_BAD, fp_m L R I J) else if v = 0 then (pm_res mX7_share 64 [(0, .ref 45), (1, .int x), (2, .int v)] [] (fp_m L R I J)) else (pm_aI (fp_m L R I J) 49 x).bind fun g6 => if g6 = 0 then (if (nI (fp_sm (fp_nz S.2.2.2.2.2) 729) - 0) = 30 then (some (.long pm_FULL, fp_m L R I J)) else (pm_res mX7_share 64 [(0, .ref 45), (1, .int x), (2, .int v)] [] (fp_m L R I J))) else (if (nI (fp_sm (fp_nz S.2.2.2.2.2) 729) - 1) = 30 then (some (.long pm_FULL, fp_m L R I J)) else (pm_res mX7_share 64 [(0, .ref 45), (1, .int x), (2, .int v)] [] (fp_m L R I J))) := by
    intro I J hM
    rw [e_X7_share]
    simp only [k_45, cond_true, r_sures hM.2.2.1.1 hM.2.2.1.2.1 q2, fp_oI', Option.bind_some, r_inA _ (x := x) (show 1 ≤ S.2.2.2.1 ^ (2 * S.2.2.1) by omega) (show S.2.2.2.1 ^ (2 * S.2.2.1) < 2 ^ 31 by omega), r_in _ (x := v) (k := 1000000) (n := 1000000) (by decide), fp_b_0, r_many hR hM.2.2.2 s1, gr_45_6 hR]
  generalize hP : S.2.2.2.1 ^ (2 * S.2.2.1) = P at *
  by_cases h1 : 0 ≤ x.toInt ∧ x.toInt < (P : Int)
  case neg =>
    refine ⟨S, pm_BAD, hok, fp_Cs.same fun I J hC => ?_, fp_Ms.same fun I J hM => ?_⟩
    · rw [eC I J hC]
      by_cases h3 : x < 0
      · rw [if_pos h3]
      · rw [if_neg h3, if_pos]
        simp only [Int32.lt_iff_toInt_lt, Int32.le_iff_toInt_le] at h3 ⊢
        rw [nI_toInt (by omega)]
        simp at h3
        omega
    · rw [eM I J hM, if_pos h1]
  obtain ⟨m, hm, rfl⟩ := fp_nat (k := P) h1.1 h1.2 (by omega)
  by_cases h2 : 0 ≤ v.toInt ∧ v.toInt < ((1000000 : Nat) : Int) + 1
  case neg =>
    refine ⟨S, pm_BAD, hok, fp_Cs.same fun I J hC => ?_, fp_Ms.same fun I J hM => ?_⟩
    · rw [eC I J hC, if_neg (nI_pos (by omega)), if_neg (nI_ge hm (by omega))]
      by_cases h3 : v < 0
      · rw [if_pos h3]
      · rw [if_neg h3, if_neg]
        simp only [Int32.lt_iff_toInt_lt, Int32.le_iff_toInt_le] at h3 ⊢
        simp at h3 h2 ⊢
        omega
    · rw [eM I J hM, if_neg (not_not_intro h1), if_pos h2]
  obtain ⟨v', v1, v2, rfl⟩ := fp_natL (t := v) (j := 0) (k := 1000000) (by omega) (by omega) (by decide)
  have okS : fp_ok (fp_law S S.2.2.1 S.2.2.2.1 S.2.2.2.2.1 (va_up S.2.2.2.2.2 m v')) := fp_law_ok hok q1 q2 q3 q4 q5 q6 (fun n => by
    by_cases e : n = m
    · rw [e, pm_up_same]; exact v2
    · rw [pm_up_other _ _ e]; exact s1 n) (fun n hn => by
    rw [pm_up_other _ _ (show n ≠ m by omega)]; exact s2 n (by omega))
  have tailM : ∀ I J, fp_MR S I → ∃ I1 J1, pm_res mX7_share 64 [(0, .ref 45), (1, .int (nI m)), (2, .int (nI v'))] [] (fp_m L R I J) = some (.long (nI (S.2.2.2.2.2 m)).toInt64, fp_m L R I1 J1) ∧ fp_MR (fp_law S S.2.2.1 S.2.2.2.1 S.2.2.2.2.1 (va_up S.2.2.2.2.2 m v')) I1 ∧ ∀ i, i < 45 → I1 i = I i := by
    intro I J hM
    refine ⟨va_up I 49 (va_up (I 49) m (nI v')), J, ?_, r_lawR hM (pm_up_other _ _ (by decide)) (pm_up_other _ _ (by decide)) (by rw [pm_up_other _ _ (by decide)]) (by rw [pm_up_other _ _ (by decide)]; exact hM.2.2.1.1) (by rw [pm_up_other _ _ (by decide)]; exact hM.2.2.1.2.1) (fun k hk => by rw [pm_up_other _ _ (by decide)]; exact hM.2.2.1.2.2 k hk) (fun n hn => ?_), fun i hi => pm_up_other _ _ (by omega)⟩
    · rw [e_X7_share_64]
      simp only [gr_45_6 hR, Option.bind_some]
      rw [ai_49 (by omega), Option.bind_some, si_49 (by omega), Option.bind_some, hM.2.2.2 m (by omega)]
    · rw [pm_up_same]
      by_cases e : n = m
      · rw [e, pm_up_same, pm_up_same]
      · rw [pm_up_other _ _ e, pm_up_other _ _ e]; exact hM.2.2.2 n hn
  have hsm := s1 m
  by_cases hs : S.2.2.2.2.2 m = 0
  · by_cases hv : v' = 0
    · -- nothing is changed
      subst hv
      refine ⟨_, (nI (S.2.2.2.2.2 m)).toInt64, okS, fun I J hC => ?_, fun I J hM => ?_⟩
      · obtain ⟨n, num, g1, g2, g3, g4, g5⟩ := hC.2.2.2
        have fnd := c_find (L := L) (J := J) hR g1 (show m < 729 by omega) g2 (fun i hi => ⟨(g3 i hi).1, (g3 i hi).2.2.2⟩)
        rcases fnd with ⟨i, i1, i2, -⟩ | ⟨-, f2⟩
        · exact absurd (by rw [i2]; exact hs) (g3 i i1).2.2.1
        · refine ⟨I, J, ?_, ?_, fun _ _ => rfl⟩
          · rw [eC I J hC, if_neg (nI_pos (by omega)), if_neg (nI_ge hm (by omega)), if_neg (nI_pos (by omega)), if_pos (fp_leR (by omega) (by decide)), f2, fp_oI', Option.bind_some]
            dsimp only
            rw [if_neg (by decide), if_pos (show nI 0 = 0 from rfl), e_X6_share_62, if_neg (by decide), e_X6_share_79]
            simp only [gr_1_3 hR, Option.bind_some, k_37, cond_true, c_putNot, fp_oV', hs]
            rfl
          · rw [show va_up S.2.2.2.2.2 m 0 = S.2.2.2.2.2 by rw [← hs]; exact fp_ups _ _]
            exact hC
      · obtain ⟨I1, J1, f1, f2, f3⟩ := tailM I J hM
        refine ⟨I1, J1, ?_, f2, f3⟩
        rw [eM I J hM, if_neg (not_not_intro h1), if_neg (not_not_intro h2), if_pos (show nI 0 = 0 from rfl)]
        exact f1
    · by_cases hn30 : fp_sm (fp_nz S.2.2.2.2.2) 729 = 30
      · refine ⟨S, pm_FULL, hok, fp_Cs.same fun I J hC => ?_, fp_Ms.same fun I J hM => ?_⟩
        · have hmany := fp_sh_many hC.2.2.2
          obtain ⟨n, num, g1, g2, g3, g4, g5⟩ := hC.2.2.2
          have fnd := c_find (L := L) (J := J) hR g1 (show m < 729 by omega) g2 (fun i hi => ⟨(g3 i hi).1, (g3 i hi).2.2.2⟩)
          rcases fnd with ⟨i, i1, i2, -⟩ | ⟨-, f2⟩
          · exact absurd (by rw [i2]; exact hs) (g3 i i1).2.2.1
          · rw [eC I J hC, if_neg (nI_pos (by omega)), if_neg (nI_ge hm (by omega)), if_neg (nI_pos (by omega)), if_pos (fp_leR (by omega) (by decide)), f2, fp_oI', Option.bind_some]
            dsimp only
            rw [if_neg (by decide), if_neg (fp_ne hv (by omega) (by decide))]
            simp only [gr_1_3 hR, Option.bind_some, gi_37, hmany.2, hn30]
            rfl
        · rw [eM I J hM, if_neg (not_not_intro h1), if_neg (not_not_intro h2), if_neg (fp_ne hv (by omega) (by decide)), ai_49 (by omega), Option.bind_some, hM.2.2.2 m (by omega), if_pos (fp_eqR hs), hn30]
          rfl
      · refine ⟨_, (nI (S.2.2.2.2.2 m)).toInt64, okS, fun I J hC => ?_, fun I J hM => ?_⟩
        · have hmany := fp_sh_many hC.2.2.2
          obtain ⟨n, num, g1, g2, g3, g4, g5⟩ := hC.2.2.2
          have en : n = fp_sm (fp_nz S.2.2.2.2.2) 729 := by
            have := g2.symm.trans hmany.2
            exact (nI_eq (by omega) (by omega)).mp this
          have fnd := c_find (L := L) (J := J) hR g1 (show m < 729 by omega) g2 (fun i hi => ⟨(g3 i hi).1, (g3 i hi).2.2.2⟩)
          rcases fnd with ⟨i, i1, i2, -⟩ | ⟨f1, f2⟩
          · exact absurd (by rw [i2]; exact hs) (g3 i i1).2.2.1
          · refine ⟨va_up (va_up (va_up I 38 (va_up (I 38) n (nI m))) 39 (va_up (I 39) n (nI v'))) 37 (va_up (I 37) 2 (nI (n + 1))), J, ?_, c_lawR hok hC (fun i a1 a2 => by rw [pm_up_other _ _ (by omega), pm_up_other _ _ (by omega), pm_up_other _ _ (by omega)]) ?_ ?_ (fun k hk => ?_) ?_, fun i hi => by rw [pm_up_other _ _ (by omega), pm_up_other _ _ (by omega), pm_up_other _ _ (by omega)]⟩
            · rw [eC I J hC, if_neg (nI_pos (by omega)), if_neg (nI_ge hm (by omega)), if_neg (nI_pos (by omega)), if_pos (fp_leR (by omega) (by decide)), f2, fp_oI', Option.bind_some]
              dsimp only
              rw [if_neg (by decide), if_neg (fp_ne hv (by omega) (by decide))]
              simp only [gr_1_3 hR, Option.bind_some, gi_37, g2]
              rw [if_pos (fp_ltR (show n < 30 by omega) (by decide)), e_X6_share_62, if_neg (by decide), e_X6_share_79]
              simp only [gr_1_3 hR, Option.bind_some, k_37, cond_true, c_putNew hR (show n < 30 by omega) g2 hv v2, fp_oV', hs]
              rfl
            · rw [pm_up_other _ _ (by decide), pm_up_other _ _ (by decide), pm_up_other _ _ (by decide)]; exact hC.2.2.1.1
            · rw [pm_up_other _ _ (by decide), pm_up_other _ _ (by decide), pm_up_other _ _ (by decide)]; exact hC.2.2.1.2.1
            · rw [pm_up_other _ _ (by decide), pm_up_other _ _ (by decide), pm_up_other _ _ (by decide)]; exact hC.2.2.1.2.2 k hk
            · refine ⟨n + 1, va_up num n m, by omega, ?_, fun i hi => ?_, fun i j hi hj => ?_, fun k hk => ?_⟩
              · rw [pm_up_same, pm_up_same]
              · rw [pm_up_other _ _ (show (38 : Nat) ≠ 37 by decide), pm_up_other _ _ (show (38 : Nat) ≠ 39 by decide), pm_up_same, pm_up_other _ _ (show (39 : Nat) ≠ 37 by decide), pm_up_same]
                by_cases e : i = n
                · subst e
                  rw [pm_up_same, pm_up_same, pm_up_same, pm_up_same]
                  exact ⟨rfl, rfl, hv, by omega⟩
                · have i1 : i < n := by omega
                  rw [pm_up_other _ _ e, pm_up_other _ _ e, pm_up_other _ _ e, pm_up_other _ _ (f1 i i1)]
                  exact g3 i i1
              · by_cases e : i = n
                · by_cases e2 : j = n
                  · intro _; omega
                  · rw [e, pm_up_same, pm_up_other _ _ e2]
                    intro q; exact absurd q.symm (f1 j (by omega))
                · rw [pm_up_other _ _ e]
                  by_cases e2 : j = n
                  · rw [e2, pm_up_same]
                    intro q; exact absurd q (f1 i (by omega))
                  · rw [pm_up_other _ _ e2]
                    exact g4 i j (by omega) (by omega)
              · by_cases e : k = m
                · exact ⟨n, by omega, by rw [pm_up_same, e]⟩
                · rw [pm_up_other _ _ e] at hk
                  obtain ⟨i, i1, i2⟩ := g5 k hk
                  exact ⟨i, by omega, by rw [pm_up_other _ _ (by omega)]; exact i2⟩
        · obtain ⟨I1, J1, f1, f2, f3⟩ := tailM I J hM
          refine ⟨I1, J1, ?_, f2, f3⟩
          have : fp_sm (fp_nz S.2.2.2.2.2) 729 ≤ 729 * 1 := fp_sm_le (fun i => by unfold fp_nz; split <;> omega) 729
          rw [eM I J hM, if_neg (not_not_intro h1), if_neg (not_not_intro h2), if_neg (fp_ne hv (by omega) (by decide)), ai_49 (by omega), Option.bind_some, hM.2.2.2 m (by omega), if_pos (fp_eqR hs), if_neg]
          · exact f1
          · rw [show nI (fp_sm (fp_nz S.2.2.2.2.2) 729) - 0 = nI (fp_sm (fp_nz S.2.2.2.2.2) 729 - 0) from pk_sub (b := 0) (by omega)]
            exact fp_ne (by omega) (by omega) (by decide)
  · by_cases h31 : v' ≠ 0 ∧ fp_sm (fp_nz S.2.2.2.2.2) 729 = 31
    · refine ⟨S, pm_FULL, hok, fp_Cs.same fun I J hC => ?_, fp_Ms.same fun I J hM => ?_⟩
      · have hmany := fp_sh_many hC.2.2.2
        omega
      · rw [eM I J hM, if_neg (not_not_intro h1), if_neg (not_not_intro h2), if_neg (fp_ne h31.1 (by omega) (by decide)), ai_49 (by omega), Option.bind_some, hM.2.2.2 m (by omega), if_neg (fp_ne hs (by omega) (by decide)), h31.2]
        rfl
    refine ⟨_, (nI (S.2.2.2.2.2 m)).toInt64, okS, fun I J hC => ?_, fun I J hM => ?_⟩
    · obtain ⟨n, num, g1, g2, g3, g4, g5⟩ := hC.2.2.2
      have fnd := c_find (L := L) (J := J) hR g1 (show m < 729 by omega) g2 (fun i hi => ⟨(g3 i hi).1, (g3 i hi).2.2.2⟩)
      rcases fnd with ⟨i, i1, i2, f2⟩ | ⟨f1, -⟩
      case inr =>
        obtain ⟨i, i1, i2⟩ := g5 m hs
        exact absurd i2 (f1 i i1)
      have head : pm_C mX6_share [.ref 1, .int (nI m), .int (nI v')] (fp_m L R I J) = (pm_oV (pm_C mX4_put [.ref 37, .int (nI i), .int (nI m), .int (nI v')] (fp_m L R I J))).bind fun m2 => some (.long (nI (S.2.2.2.2.2 m)).toInt64, m2) := by
        rw [eC I J hC, if_neg (nI_pos (by omega)), if_neg (nI_ge hm (by omega)), if_neg (nI_pos (by omega)), if_pos (fp_leR (by omega) (by decide)), f2, fp_oI', Option.bind_some]
        dsimp only
        rw [if_pos (nI_pos' (by omega)), e_X6_share_62, if_pos (nI_pos' (by omega))]
        simp only [gr_1_3 hR, gr_37_1 hR, Option.bind_some]
        rw [ai_39 (by omega), Option.bind_some, (g3 i i1).2.1, i2, e_X6_share_79]
        simp only [gr_1_3 hR, Option.bind_some, k_37, cond_true]
      by_cases hv : v' = 0
      · subst hv
        refine ⟨va_up (va_up (va_up I 37 (va_up (I 37) 2 (nI (n - 1)))) 38 (va_up (I 38) i (I 38 (n - 1)))) 39 (va_up (I 39) i (I 39 (n - 1))), J, ?_, c_lawR hok hC (fun i a1 a2 => by rw [pm_up_other _ _ (by omega), pm_up_other _ _ (by omega), pm_up_other _ _ (by omega)]) ?_ ?_ (fun k hk => ?_) ?_, fun i hi => by rw [pm_up_other _ _ (by omega), pm_up_other _ _ (by omega), pm_up_other _ _ (by omega)]⟩
        · rw [head, c_putDel hR i1 g1 g2, fp_oV']
          rfl
        · rw [pm_up_other _ _ (by decide), pm_up_other _ _ (by decide), pm_up_other _ _ (by decide)]; exact hC.2.2.1.1
        · rw [pm_up_other _ _ (by decide), pm_up_other _ _ (by decide), pm_up_other _ _ (by decide)]; exact hC.2.2.1.2.1
        · rw [pm_up_other _ _ (by decide), pm_up_other _ _ (by decide), pm_up_other _ _ (by decide)]; exact hC.2.2.1.2.2 k hk
        · have nn : ∀ j, j < n → j ≠ i → num j ≠ m := fun j hj hne q => hne (g4 j i hj i1 (q.trans i2.symm))
          refine ⟨n - 1, va_up num i (num (n - 1)), by omega, ?_, fun j hj => ?_, fun j k hj hk => ?_, fun k hk => ?_⟩
          · rw [pm_up_other _ _ (show (37 : Nat) ≠ 39 by decide), pm_up_other _ _ (show (37 : Nat) ≠ 38 by decide), pm_up_same, pm_up_same]
          · rw [pm_up_other _ _ (show (38 : Nat) ≠ 39 by decide), pm_up_same, pm_up_same]
            by_cases e : j = i
            · subst e
              rw [pm_up_same, pm_up_same, pm_up_same, pm_up_other _ _ (nn (n - 1) (by omega) (by omega))]
              exact g3 (n - 1) (by omega)
            · rw [pm_up_other _ _ e, pm_up_other _ _ e, pm_up_other _ _ e, pm_up_other _ _ (nn j (by omega) e)]
              exact g3 j (by omega)
          · by_cases e : j = i
            · by_cases e2 : k = i
              · intro _; omega
              · rw [e, pm_up_same, pm_up_other _ _ e2]
                intro q; have := g4 (n - 1) k (by omega) (by omega) q; omega
            · rw [pm_up_other _ _ e]
              by_cases e2 : k = i
              · rw [e2, pm_up_same]
                intro q; have := g4 j (n - 1) (by omega) (by omega) q; omega
              · rw [pm_up_other _ _ e2]
                exact g4 j k (by omega) (by omega)
          · have km : k ≠ m := fun e => hk (by rw [e, pm_up_same])
            rw [pm_up_other _ _ km] at hk
            obtain ⟨j, j1, j2⟩ := g5 k hk
            have ji : j ≠ i := fun e => km (by rw [← j2, e, i2])
            by_cases e : j = n - 1
            · exact ⟨i, by omega, by rw [pm_up_same, ← e, j2]⟩
            · exact ⟨j, by omega, by rw [pm_up_other _ _ ji, j2]⟩
      · refine ⟨va_up I 39 (va_up (I 39) i (nI v')), J, ?_, c_lawR hok hC (fun i a1 a2 => pm_up_other _ _ (by omega)) ?_ ?_ (fun k hk => ?_) ?_, fun i hi => pm_up_other _ _ (by omega)⟩
        · rw [head, c_putSet hR (by omega) hv v2, fp_oV']
          rfl
        · rw [pm_up_other _ _ (by decide)]; exact hC.2.2.1.1
        · rw [pm_up_other _ _ (by decide)]; exact hC.2.2.1.2.1
        · rw [pm_up_other _ _ (by decide)]; exact hC.2.2.1.2.2 k hk
        · refine ⟨n, num, g1, by rw [pm_up_other _ _ (by decide)]; exact g2, fun j hj => ?_, g4, fun k hk => ?_⟩
          · rw [pm_up_other _ _ (show (38 : Nat) ≠ 39 by decide), pm_up_same]
            by_cases e : j = i
            · subst e
              rw [pm_up_same, i2, pm_up_same]
              exact ⟨by rw [(g3 j hj).1, i2], rfl, hv, by omega⟩
            · have nm : num j ≠ m := fun q => e (g4 j i hj i1 (q.trans i2.symm))
              rw [pm_up_other _ _ e, pm_up_other _ _ nm]
              exact g3 j hj
          · by_cases e : k = m
            · exact ⟨i, i1, by rw [e]; exact i2⟩
            · rw [pm_up_other _ _ e] at hk
              exact g5 k hk
    · obtain ⟨I1, J1, f1, f2, f3⟩ := tailM I J hM
      refine ⟨I1, J1, ?_, f2, f3⟩
      rw [eM I J hM, if_neg (not_not_intro h1), if_neg (not_not_intro h2)]
      by_cases hv : v' = 0
      · rw [if_pos (fp_eqR hv)]; exact f1
      · rw [if_neg (fp_ne hv (by omega) (by decide)), ai_49 (by omega), Option.bind_some, hM.2.2.2 m (by omega), if_neg (fp_ne hs (by omega) (by decide)), if_neg]
        · exact f1
        · have hle : fp_sm (fp_nz S.2.2.2.2.2) 729 ≤ 729 * 1 := fp_sm_le (fun i => by unfold fp_nz; split <;> omega) 729
          by_cases hz : fp_sm (fp_nz S.2.2.2.2.2) 729 = 0
          · rw [hz]; decide
          · rw [ns_1 (by omega)]
            exact fp_ne (fun e => h31 ⟨hv, by omega⟩) (by omega) (by decide)
end FpShare
