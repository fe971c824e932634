/-! THE CHANGES KEPT -/
section FpHist
variable {L : Nat} {R : Nat → Nat → Option Nat} {I : Nat → Nat → Int32} {J : Nat → Nat → Int64}
theorem fp_min6 {n : Nat} (h : n ≤ 6) : pm_min 6 (nI n + 1) = nI (min 6 (n + 1)) := by
  rcases (by omega : n = 0 ∨ n = 1 ∨ n = 2 ∨ n = 3 ∨ n = 4 ∨ n = 5 ∨ n = 6) with rfl | rfl | rfl | rfl | rfl | rfl | rfl <;> decide
theorem fp_mod6 {n : Nat} (h : n < 6) : pm_rem (nI n + 1) 6 = nI ((n + 1) % 6) := by
  rcases (by omega : n = 0 ∨ n = 1 ∨ n = 2 ∨ n = 3 ∨ n = 4 ∨ n = 5) with rfl | rfl | rfl | rfl | rfl | rfl <;> decide
theorem c_keep (hR : fp_RK R) {t : Nat} (ht : t < 8) {T : fp_T} (hT : fp_at I (3 + 2 * t) T) {h : List (Nat × fp_T)} (hr : fp_ring I h) (hl : h.length ≤ 6) :
    ∃ I', pm_C mX2_keep [.ref 19, .int (nI t), .ref (3 + 2 * t)] (fp_m L R I J) = some (.null, fp_m L R I' J) ∧ fp_ring I' (((t, T) :: h).take 6) ∧ ∀ i, i < 19 ∨ 34 ≤ i → I' i = I i := by
  obtain ⟨nx, h1, h2, h3, h4⟩ := hr
  obtain ⟨I1, c1, c2, c3⟩ := c_copyFrom (L := L) (J := J) hR (tb_k h1) (tb_t ht) (by omega) (by omega) (by omega) hT
  rw [e_X2_keep]
  simp only [gr_19_0 hR, Option.bind_some, gi_19, h2, ar_20 hR h1, k_T (tb_k h1), cond_true, c1, fp_oV', gr_19_1 hR]
  have e1 : I1 19 = I 19 := c3 19 (by omega) (by omega)
  have e2 : I1 21 = I 21 := c3 21 (by omega) (by omega)
  simp only [e1, h2, si_21 h1, Option.bind_some, gi_19, pi_19, pm_up_same, pm_up_other _ _ (show (19 : Nat) ≠ 21 by decide), fp_mod6 h1]
  have e3 : va_up (I 19) 2 (nI ((nx + 1) % 6)) 3 = nI h.length := by simp [va_up, h3]
  rw [e3, fp_min6 hl]
  refine ⟨_, rfl, ⟨(nx + 1) % 6, by omega, ?_, ?_, ?_⟩, ?_⟩
  · simp [va_up]
  · simp [va_up, List.length_take]
    congr 1
    omega
  · intro j p hp
    have hj6 : j < 6 := by
      have := (List.getElem?_eq_some_iff.mp hp).1
      rw [List.length_take] at this
      omega
    rw [List.getElem?_take_of_lt hj6] at hp
    cases j with
    | zero =>
      cases hp
      have e : ((nx + 1) % 6 + 5 - 0) % 6 = nx := by omega
      rw [e]
      refine ⟨by simp [va_up], fp_at_cong c2 ?_ ?_⟩
      · simp [va_up, show 22 + 2 * nx ≠ 19 by omega, show 22 + 2 * nx ≠ 21 by omega]
      · simp [va_up, show 22 + 2 * nx + 1 ≠ 19 by omega, show 22 + 2 * nx + 1 ≠ 21 by omega]
    | succ j =>
      have hp : h[j]? = some p := hp
      obtain ⟨g1, g2⟩ := h4 j p hp
      have e : ((nx + 1) % 6 + 5 - (j + 1)) % 6 = (nx + 5 - j) % 6 := by omega
      have ne : (nx + 5 - j) % 6 ≠ nx := by omega
      have lt : (nx + 5 - j) % 6 < 6 := by omega
      rw [e]
      generalize (nx + 5 - j) % 6 = x at *
      refine ⟨by simp [va_up, ne, e2, g1], fp_at_cong g2 ?_ ?_⟩
      · simp only [va_up, show 22 + 2 * x ≠ 19 by omega, show 22 + 2 * x ≠ 21 by omega, if_false]
        exact c3 _ (by omega) (by omega)
      · simp only [va_up, show 22 + 2 * x + 1 ≠ 19 by omega, show 22 + 2 * x + 1 ≠ 21 by omega, if_false]
        exact c3 _ (by omega) (by omega)
  · intro i hi
    simp only [va_up, show i ≠ 19 by omega, show i ≠ 21 by omega, if_false]
    exact c3 i (by omega) (by omega)
theorem c_changing (hR : fp_RK R) {t : Nat} (ht : t < 8) {T : fp_T} (hT : fp_at I (3 + 2 * t) T) {h : List (Nat × fp_T)} (hr : fp_ring I h) (hl : h.length ≤ 6) :
    ∃ I', pm_C mX6_changing [.ref 1, .int (nI t)] (fp_m L R I J) = some (.ref (3 + 2 * t), fp_m L R I' J) ∧ fp_ring I' (((t, T) :: h).take 6) ∧ ∀ i, i < 19 ∨ 34 ≤ i → I' i = I i := by
  obtain ⟨I', h1, h2, h3⟩ := c_keep (L := L) (J := J) hR ht hT hr hl
  refine ⟨I', ?_, h2, h3⟩
  rw [e_X6_changing]
  simp only [gr_1_1 hR, gr_1_0 hR, Option.bind_some, ar_2 hR ht, k_19, cond_true, h1, fp_oV']
/-- the reference keeps all tables -/
theorem r_keep (hR : fp_RK R) {tb : Nat → fp_T} {h : List (Nat × fp_T)} (hl : h.length ≤ 6) (h1 : ∀ i, i < 672 → I 46 i = fp_flat tb i) (h2 : I 45 2 = nI h.length) (h3 : ∀ j, j < h.length → ∀ i, i < 672 → I 47 (672 * (h.length - 1 - j) + i) = fp_flat (fp_und (j + 1) tb h) i) :
    ∃ I', pm_C mX7_keep [.ref 45] (fp_m L R I J) = some (.null, fp_m L R I' J) ∧ I' 45 2 = nI (min 6 (h.length + 1)) ∧ (∀ k, k ≠ 2 → I' 45 k = I 45 k) ∧ (∀ i, i ≠ 45 → i ≠ 47 → I' i = I i) ∧
      ∀ j, j < min 6 (h.length + 1) → ∀ i, i < 672 → I' 47 (672 * (min 6 (h.length + 1) - 1 - j) + i) = fp_flat (fp_und j tb h) i := by
  -- the second loop, from any start
  have loop2 : ∀ (I1 : Nat → Nat → Int32) (K : Nat), K < 6 → I1 45 2 = nI K → (∀ i, i < 672 → I1 46 i = fp_flat tb i) → pm_res mX7_keep 52 [(0, .ref 45), (1, .int (nI 0))] [] (fp_m L R I1 J) = some (.null, fp_m L R (va_up (va_up I1 47 (fun j => if 672 * K ≤ j ∧ j < 672 * K + 672 then fp_flat tb (j - 672 * K) else I1 47 j)) 45 (va_up (I1 45) 2 (nI (K + 1)))) J) := by
    intro I1 K hK k1 k2
    have key := fp_lp0 (fun i => pm_res mX7_keep 52 [(0, .ref 45), (1, .int (nI i))] [] (fp_m L R (va_up I1 47 (fun j => if 672 * K ≤ j ∧ j < 672 * K + i then fp_flat tb (j - 672 * K) else I1 47 j)) J)) 672 (fun i hi => by
      rw [e_X7_keep_52, if_neg (fp_ge hi (by decide))]
      simp only [gr_45_1 hR, gr_45_0 hR, Option.bind_some, gi_45, pm_up_other _ _ (show (45 : Nat) ≠ 47 by decide), pm_up_other _ _ (show (46 : Nat) ≠ 47 by decide), k1, ai_46 hi, k2 i hi]
      rw [fp_mulL, nI_add, si_47 (by omega)]
      simp only [Option.bind_some, pm_up_same, bx_uu, nI_1]
      rw [fp_fw (fp_flat tb) (I1 47) (672 * K) i])
    rw [fp_fw0 (fp_flat tb) (I1 47) (672 * K), fp_ups] at key
    rw [key, e_X7_keep_52, if_pos (fp_le (Nat.le_refl _) (by decide))]
    simp only [gi_45, pi_45, Option.bind_some, pm_up_other _ _ (show (45 : Nat) ≠ 47 by decide), k1, nI_1]
  rw [e_X7_keep]
  simp only [gi_45, h2, Option.bind_some]
  by_cases h6 : h.length = 6
  · rw [if_pos (by rw [h6]; rfl)]
    have key := fp_lp0 (fun i => pm_res mX7_keep 11 [(0, .ref 45), (1, .int (nI i))] [] (fp_m L R (va_up I 47 (fun j => if j < i then I 47 (j + 672) else I 47 j)) J)) 3360 (fun i hi => by
      rw [e_X7_keep_11, if_neg (fp_ge hi (by decide))]
      simp only [gr_45_1 hR, Option.bind_some]
      rw [fp_addR, ai_47 (by omega)]
      simp only [Option.bind_some, pm_up_same]
      rw [if_neg (by omega), si_47 (by omega)]
      simp only [Option.bind_some, pm_up_same, bx_uu, nI_1]
      rw [fp_fs (fun j => I 47 (j + 672)) (I 47) i])
    rw [fp_fs0 (fun j => I 47 (j + 672)) (I 47), fp_ups] at key
    rw [show (0 : Int32) = nI 0 from rfl, key, e_X7_keep_11, if_pos (fp_le (Nat.le_refl _) (by decide))]
    simp only [gi_45, pi_45, Option.bind_some, pm_up_other _ _ (show (45 : Nat) ≠ 47 by decide), h2, h6]
    rw [show (0 : Int32) = nI 0 from rfl, loop2 _ 5 (by decide) (by simp [va_up]; decide) (fun i hi => by simp only [va_up, show ¬ (46 = 45) by decide, show ¬ (46 = 47) by decide, if_false]; exact h1 i hi)]
    refine ⟨_, rfl, by simp [va_up], fun k hk => by simp [va_up, hk], fun i g1 g2 => by simp [va_up, g1, g2], ?_⟩
    intro j hj i hi
    simp only [va_up, show ¬ (47 = 45) by decide, if_false, if_true]
    cases j with
    | zero =>
      rw [if_pos (by omega)]
      exact congrArg (fp_flat tb) (by omega)
    | succ j =>
      rw [if_neg (by omega), if_pos (by omega)]
      exact (congrArg (I 47) (by omega)).trans (h3 j (by omega) i hi)
  · rw [if_neg (fp_ne h6 (by omega) (by decide))]
    rw [show (0 : Int32) = nI 0 from rfl, loop2 I h.length (by omega) h2 h1]
    refine ⟨_, rfl, ?_, fun k hk => by simp [va_up, hk], fun i g1 g2 => by simp [va_up, g1, g2], ?_⟩
    · simp [va_up]
      congr 1
      omega
    · intro j hj i hi
      simp only [va_up, show ¬ (47 = 45) by decide, if_false, if_true]
      cases j with
      | zero =>
        rw [if_pos (by omega)]
        exact congrArg (fp_flat tb) (by omega)
      | succ j =>
        rw [if_neg (by omega)]
        exact (congrArg (I 47) (by omega)).trans (h3 j (by omega) i hi)
/-- the latest change taken back, in the class -/
theorem c_takeBack (hR : fp_RK R) {p : Nat × fp_T} {h : List (Nat × fp_T)} (hr : fp_ring I (p :: h)) (hl : (p :: h).length ≤ 6) (hp : p.1 < 8) :
    ∃ I', pm_C mX2_takeBack [.ref 19, .ref 2] (fp_m L R I J) = some (.null, fp_m L R I' J) ∧ fp_ring I' h ∧ fp_at I' (3 + 2 * p.1) p.2 ∧ ∀ i, i ≠ 3 + 2 * p.1 → i ≠ 3 + 2 * p.1 + 1 → i ≠ 19 → I' i = I i := by
  obtain ⟨nx, h1, h2, h3, h4⟩ := hr
  obtain ⟨g1, g2⟩ := h4 0 p rfl
  have e0 : pm_rem (nI nx + 6 - 1) 6 = nI ((nx + 5) % 6) := by
    rcases (by omega : nx = 0 ∨ nx = 1 ∨ nx = 2 ∨ nx = 3 ∨ nx = 4 ∨ nx = 5) with rfl | rfl | rfl | rfl | rfl | rfl <;> decide
  have hm : (nx + 5) % 6 < 6 := by omega
  rw [Nat.sub_zero] at g1 g2
  obtain ⟨I1, c1, c2, c3⟩ := c_copyFrom (I := va_up I 19 (va_up (I 19) 2 (nI ((nx + 5) % 6)))) (L := L) (J := J) hR (tb_t hp) (tb_k hm) (by omega) (by omega) (by omega) (fp_at_cong g2 (pm_up_other _ _ (by omega)) (pm_up_other _ _ (by omega)))
  rw [e_X2_takeBack]
  simp only [gi_19, h2, Option.bind_some, e0, pi_19, gr_19_1 hR, pm_up_same, ai_21 hm, pm_up_other _ _ (show (21 : Nat) ≠ 19 by decide), g1, ar_2 hR hp, gr_19_0 hR, ar_20 hR hm, k_T (tb_t hp), cond_true, c1, fp_oV']
  have e1 : I1 19 = va_up (I 19) 2 (nI ((nx + 5) % 6)) := (c3 19 (by omega) (by omega)).trans (pm_up_same _ _ _)
  have e2 : va_up (I 19) 2 (nI ((nx + 5) % 6)) 3 = nI (h.length + 1) := by simp [va_up, h3]
  rw [e1, e2, show (1 : Int32) = nI 1 from rfl, pk_sub (by omega), Nat.add_sub_cancel]
  refine ⟨_, rfl, ⟨(nx + 5) % 6, hm, ?_, ?_, ?_⟩, ?_, ?_⟩
  · simp [va_up]
  · simp [va_up]
  · intro j q hq
    have hj : j < h.length := (List.getElem?_eq_some_iff.mp hq).1
    simp only [List.length_cons] at hl
    obtain ⟨g3, g4⟩ := h4 (j + 1) q hq
    have e : ((nx + 5) % 6 + 5 - j) % 6 = (nx + 5 - (j + 1)) % 6 := by omega
    rw [e]
    have lt : (nx + 5 - (j + 1)) % 6 < 6 := by omega
    generalize (nx + 5 - (j + 1)) % 6 = x at *
    refine ⟨?_, fp_at_cong g4 ?_ ?_⟩
    · rw [pm_up_other _ _ (by decide), c3 21 (by omega) (by omega), pm_up_other _ _ (by decide)]; exact g3
    · rw [pm_up_other _ _ (by omega), c3 _ (by omega) (by omega), pm_up_other _ _ (by omega)]
    · rw [pm_up_other _ _ (by omega), c3 _ (by omega) (by omega), pm_up_other _ _ (by omega)]
  · exact fp_at_cong c2 (pm_up_other _ _ (by omega)) (pm_up_other _ _ (by omega))
  · intro i i1 i2 i3
    rw [pm_up_other _ _ i3, c3 i i1 i2, pm_up_other _ _ i3]
theorem c_undo0 (hR : fp_RK R) (hr : fp_ring I []) : pm_C mX6_undo [.ref 1] (fp_m L R I J) = some (.long pm_NO, fp_m L R I J) := by
  obtain ⟨nx, h1, h2, h3, h4⟩ := hr
  rw [e_X6_undo]
  simp only [gr_1_1 hR, Option.bind_some, gi_19, h3]
  rfl
theorem c_undo1 (hR : fp_RK R) {p : Nat × fp_T} {h : List (Nat × fp_T)} (hr : fp_ring I (p :: h)) (hl : (p :: h).length ≤ 6) (hp : p.1 < 8) :
    ∃ I', pm_C mX6_undo [.ref 1] (fp_m L R I J) = some (.long (nI h.length).toInt64, fp_m L R I' J) ∧ fp_ring I' h ∧ fp_at I' (3 + 2 * p.1) p.2 ∧ ∀ i, i ≠ 3 + 2 * p.1 → i ≠ 3 + 2 * p.1 + 1 → i ≠ 19 → I' i = I i := by
  obtain ⟨I', h1, h2, h3, h4⟩ := c_takeBack (L := L) (J := J) hR hr hl hp
  refine ⟨I', ?_, h2, h3, h4⟩
  obtain ⟨nx, g1, g2, g3, g4⟩ := hr
  obtain ⟨nx', k1, k2, k3, k4⟩ := h2
  rw [e_X6_undo]
  simp only [List.length_cons] at hl
  simp only [gr_1_1 hR, gr_1_0 hR, Option.bind_some, gi_19, g3, List.length_cons]
  rw [if_neg (fp_ne (by omega) (by omega) (by decide))]
  simp only [k_19, cond_true, h1, fp_oV', Option.bind_some, gr_1_1 hR, gi_19, k3]
/-- the same of the reference -/
theorem r_undo0 (h2 : I 45 2 = nI 0) : pm_C mX7_undo [.ref 45] (fp_m L R I J) = some (.long pm_NO, fp_m L R I J) := by
  rw [e_X7_undo]
  simp only [gi_45, Option.bind_some, h2]
  rfl
theorem r_undo1 (hR : fp_RK R) {n : Nat} (hn : n < 6) {F : Nat → Int32} (h2 : I 45 2 = nI (n + 1)) (h3 : ∀ i, i < 672 → I 47 (672 * n + i) = F i) :
    ∃ I', pm_C mX7_undo [.ref 45] (fp_m L R I J) = some (.long (nI n).toInt64, fp_m L R I' J) ∧ I' 45 2 = nI n ∧ (∀ k, k ≠ 2 → I' 45 k = I 45 k) ∧ (∀ i, i ≠ 45 → i ≠ 46 → I' i = I i) ∧ ∀ i, i < 672 → I' 46 i = F i := by
  rw [e_X7_undo]
  simp only [gi_45, Option.bind_some, h2]
  rw [if_neg (fp_ne (by omega) (by omega) (by decide)), show (1 : Int32) = nI 1 from rfl, pk_sub (by omega), Nat.add_sub_cancel]
  simp only [pi_45, Option.bind_some]
  have key := fp_lp0 (fun i => pm_res mX7_undo 23 [(0, .ref 45), (1, .int (nI i))] [] (fp_m L R (va_up (va_up I 45 (va_up (I 45) 2 (nI n))) 46 (fun j => if j < i then F j else I 46 j)) J)) 672 (fun i hi => by
    rw [e_X7_undo_23, if_neg (fp_ge hi (by decide))]
    simp only [gr_45_1 hR, gr_45_0 hR, Option.bind_some, gi_45, pm_up_other _ _ (show (45 : Nat) ≠ 46 by decide), pm_up_same]
    rw [fp_mulL, nI_add, ai_47 (by omega)]
    simp only [pm_up_other _ _ (show (47 : Nat) ≠ 46 by decide), pm_up_other _ _ (show (47 : Nat) ≠ 45 by decide), h3 i hi, Option.bind_some, si_46 hi, pm_up_same, bx_uu, nI_1]
    rw [fp_fs F (I 46) i])
  rw [fp_fs0 F (I 46), show I 46 = va_up I 45 (va_up (I 45) 2 (nI n)) 46 from (pm_up_other _ _ (by decide)).symm, fp_ups] at key
  rw [show (0 : Int32) = nI 0 from rfl, key, e_X7_undo_23, if_pos (fp_le (Nat.le_refl _) (by decide))]
  simp only [gi_45, Option.bind_some, pm_up_other _ _ (show (45 : Nat) ≠ 46 by decide), pm_up_same]
  refine ⟨_, rfl, by simp [va_up], fun k hk => by simp [va_up, hk], fun i g1 g2 => by simp [va_up, g1, g2], fun i hi => by simp [va_up, hi]⟩
end FpHist
