/-! the law in hand: begin, weigh, take, value -/
theorem fp_up_cg {α : Type} {f g : Nat → α} {i j : Nat} {v : α} (h : f j = g j) : va_up f i v j = va_up g i v j := by
  unfold va_up
  split
  · rfl
  · exact h
def fp_law (S : fp_S) (q a : Nat) (W : Nat → Int) (s : Nat → Nat) : fp_S := (S.1, S.2.1, q, a, W, s)
theorem fp_law_ok {S : fp_S} (h : fp_ok S) {q a : Nat} {W : Nat → Int} {s : Nat → Nat} (h1 : 1 ≤ q) (h2 : q ≤ 3) (h3 : 2 ≤ a) (h4 : a ≤ 3) (h5 : ∀ k, -1000 ≤ W k ∧ W k ≤ 1000) (h6 : ∀ k, ¬ fp_in q a k → W k = 0) (h7 : ∀ n, s n ≤ 1000000) (h8 : ∀ n, a ^ (2 * q) ≤ n → s n = 0) : fp_ok (fp_law S q a W s) := ⟨h.1, h.2.1, ⟨h1, h2, h3, h4, h5, h6⟩, h7, h8⟩
theorem fp_shC_0 {I : Nat → Nat → Int32} (h : I 37 2 = 0) : fp_shC I (fun _ => 0) := ⟨0, fun _ => 0, by decide, h, fun i hi => absurd hi (Nat.not_lt_zero i), fun i j hi => absurd hi (Nat.not_lt_zero i), fun k hk => absurd rfl hk⟩
theorem fp_shC_cong {I I' : Nat → Nat → Int32} {s : Nat → Nat} (h : fp_shC I s) (h1 : I' 37 = I 37) (h2 : I' 38 = I 38) (h3 : I' 39 = I 39) : fp_shC I' s := by
  unfold fp_shC at *
  rw [h1, h2, h3]
  exact h
theorem c_lawR {S : fp_S} (hok : fp_ok S) {I I' : Nat → Nat → Int32} (hC : fp_CR S I) {q a : Nat} {W : Nat → Int} {s : Nat → Nat} (h0 : ∀ i, 1 ≤ i → i < 34 → I' i = I i) (h1 : I' 34 0 = nI q) (h2 : I' 34 1 = nI a) (h3 : ∀ k, k < 81 → I' 35 k = Int32.ofInt (W k)) (h4 : fp_shC I' s) : fp_CR (fp_law S q a W s) I' := ⟨fun t ht => fp_at_cong (hC.1 t ht) (h0 _ (by omega) (by omega)) (h0 _ (by omega) (by omega)), fp_ring_cong hC.2.1 (fun i a b => h0 i (by omega) (by omega)) hok.2.1.1, ⟨h1, h2, h3⟩, h4⟩
theorem r_lawR {S : fp_S} {I I' : Nat → Nat → Int32} (hM : fp_MR S I) {q a : Nat} {W : Nat → Int} {s : Nat → Nat} (h0 : I' 46 = I 46) (h1 : I' 47 = I 47) (h2 : I' 45 2 = I 45 2) (h3 : I' 45 3 = nI q) (h4 : I' 45 4 = nI a) (h5 : ∀ k, k < 81 → I' 48 k = Int32.ofInt (W k)) (h6 : ∀ n, n < 729 → I' 49 n = nI (s n)) : fp_MR (fp_law S q a W s) I' := by
  refine ⟨fun i hi => by rw [h0]; exact hM.1 i hi, ⟨by rw [h2]; exact hM.2.1.1, fun j hj i hi => by rw [h1]; exact hM.2.1.2 j hj i hi⟩, ⟨h3, h4, h5⟩, h6⟩
section FpLawH
variable {L : Nat} {R : Nat → Nat → Option Nat} {I : Nat → Nat → Int32} {J : Nat → Nat → Int64}
theorem c_lrestart (hR : fp_RK R) (q a : Nat) : ∃ I', pm_C mX3_restart [.ref 34, .int (nI q), .int (nI a)] (fp_m L R I J) = some (.null, fp_m L R I' J) ∧ I' 34 0 = nI q ∧ I' 34 1 = nI a ∧ (∀ k, k < 81 → I' 35 k = 0) ∧ ∀ i, i ≠ 34 → i ≠ 35 → I' i = I i := by
  rw [e_X3_restart]
  simp only [pi_34, Option.bind_some, gr_34_2 hR]
  rw [c_fillI (M := fp_m L R _ J) (n := 81) rfl (by decide) (by decide), fp_oV']
  simp only [Option.bind_some, pm_up_same, bx_uu]
  refine ⟨_, rfl, ?_, ?_, fun k hk => ?_, fun i h1 h2 => ?_⟩
  · simp [va_up]
  · simp [va_up]
  · simp [va_up, hk]
  · simp [va_up, h1, h2]
theorem r_noShares (hR : fp_RK R) : ∃ I', pm_C mX7_noShares [.ref 45] (fp_m L R I J) = some (.null, fp_m L R I' J) ∧ (∀ k, k < 729 → I' 49 k = 0) ∧ ∀ i, i ≠ 49 → I' i = I i := by
  have key := fp_lp0 (fun i => pm_res mX7_noShares 2 [(0, .ref 45), (1, .int (nI i))] [] (fp_m L R (va_up I 49 (fun j => if j < i then 0 else I 49 j)) J)) 729 (fun i hi => by
    rw [e_X7_noShares_2, if_neg (fp_ge hi (by decide))]
    simp only [gr_45_6 hR, Option.bind_some, si_49 hi, pm_up_same, bx_uu, nI_1]
    rw [fp_fs (fun _ => 0) (I 49) i])
  rw [fp_fs0 (fun _ => 0) (I 49), fp_ups] at key
  refine ⟨va_up I 49 (fun j => if j < 729 then 0 else I 49 j), ?_, fun k hk => ?_, fun i hi => pm_up_other _ _ hi⟩
  · rw [e_X7_noShares, show pm_res mX7_noShares 2 [(0, .ref 45), (1, .int 0)] [] (fp_m L R I J) = _ from key, e_X7_noShares_2, if_pos (fp_le (Nat.le_refl _) (by decide))]
  · rw [pm_up_same, if_pos hk]
theorem r_beginLaw (hR : fp_RK R) (q a : Nat) : ∃ I', pm_C mX7_beginLaw [.ref 45, .int (nI q), .int (nI a)] (fp_m L R I J) = some (.null, fp_m L R I' J) ∧ I' 45 3 = nI q ∧ I' 45 4 = nI a ∧ (∀ k, k ≠ 3 → k ≠ 4 → I' 45 k = I 45 k) ∧ (∀ k, k < 81 → I' 48 k = 0) ∧ (∀ k, k < 729 → I' 49 k = 0) ∧ ∀ i, i ≠ 45 → i ≠ 48 → i ≠ 49 → I' i = I i := by
  rw [e_X7_beginLaw]
  simp only [pi_45, Option.bind_some, pm_up_same, bx_uu]
  generalize hG : va_up I 45 (va_up (va_up (I 45) 3 (nI q)) 4 (nI a)) = G
  have key := fp_lp0 (fun i => pm_res mX7_beginLaw 12 [(0, .ref 45), (3, .int (nI i))] [] (fp_m L R (va_up G 48 (fun j => if j < i then 0 else G 48 j)) J)) 81 (fun i hi => by
    rw [e_X7_beginLaw_12, if_neg (fp_ge hi (by decide))]
    simp only [gr_45_5 hR, Option.bind_some, si_48 hi, pm_up_same, bx_uu, nI_1]
    rw [fp_fs (fun _ => 0) (G 48) i])
  rw [fp_fs0 (fun _ => 0) (G 48), fp_ups] at key
  obtain ⟨I', c1, c2, c3⟩ := r_noShares (L := L) (I := va_up G 48 (fun j => if j < 81 then 0 else G 48 j)) (J := J) hR
  refine ⟨I', ?_, ?_, ?_, fun k h1 h2 => ?_, fun k hk => ?_, c2, fun i h1 h2 h3 => ?_⟩
  · rw [show pm_res mX7_beginLaw 12 [(0, .ref 45), (3, .int 0)] [] (fp_m L R G J) = _ from key, e_X7_beginLaw_12, if_pos (fp_le (Nat.le_refl _) (by decide)), k_45, cond_true, c1, fp_oV']
    rfl
  · rw [c3 45 (by decide), pm_up_other _ _ (by decide), ← hG]; simp [va_up]
  · rw [c3 45 (by decide), pm_up_other _ _ (by decide), ← hG]; simp [va_up]
  · rw [c3 45 (by decide), pm_up_other _ _ (by decide), ← hG]; simp [va_up, h1, h2]
  · rw [c3 48 (by decide), pm_up_same, if_pos hk]
  · rw [c3 i h3, pm_up_other _ _ h2, ← hG, pm_up_other _ _ h1]
theorem b_begin (hR : fp_RK R) (q a : Int32) : fp_Both L R mX6_begin mX7_begin [.int q, .int a] := by
  intro S hok
  by_cases h2 : (1 ≤ q.toInt ∧ q.toInt < 4) ∧ 2 ≤ a.toInt ∧ a.toInt < 4
  case neg =>
    refine ⟨S, pm_BAD, hok, fp_Cs.same fun I J hC => ?_, fp_Ms.same fun I J hM => ?_⟩
    · rw [e_X6_begin, c_isShape, fp_oI']; simp only [Option.bind_some, fp_b_0]; rw [if_pos h2]
    · rw [e_X7_begin, r_isShape, fp_oI']; simp only [Option.bind_some, fp_b_0]; rw [if_pos h2]
  obtain ⟨q', q1, q2, rfl⟩ := fp_natL (t := q) (j := 1) (k := 3) (by omega) (by omega) (by decide)
  obtain ⟨a', a1, a2, rfl⟩ := fp_natL (t := a) (j := 2) (k := 3) (by omega) (by omega) (by decide)
  refine ⟨fp_law S q' a' (fun _ => 0) (fun _ => 0), 0, fp_law_ok hok q1 q2 a1 a2 (fun _ => by decide) (fun _ _ => rfl) (fun _ => Nat.zero_le _) (fun _ _ => rfl), fun I J hC => ?_, fun I J hM => ?_⟩
  · obtain ⟨I1, c1, c2, c3, c4, c5⟩ := c_lrestart (L := L) (I := I) (J := J) hR q' a'
    refine ⟨_, J, ?_, c_lawR (I' := va_up I1 37 (va_up (I1 37) 2 0)) hok hC (fun i g1 g2 => ?_) ?_ ?_ (fun k hk => ?_) (fp_shC_0 ?_), fun i hi => ?_⟩
    · rw [e_X6_begin, c_isShape, fp_b_t h2, fp_oI']
      simp only [Option.bind_some, fp_10, if_false, gr_1_2 hR, k_34, cond_true, c1, fp_oV', gr_1_3 hR, k_37, e_X4_drop, pi_37]
    · rw [pm_up_other _ _ (by omega), c5 i (by omega) (by omega)]
    · rw [pm_up_other _ _ (by decide)]; exact c2
    · rw [pm_up_other _ _ (by decide)]; exact c3
    · rw [pm_up_other _ _ (by decide), c4 k hk]; rfl
    · simp [va_up]
    · rw [pm_up_other _ _ (by omega), c5 i (by omega) (by omega)]
  · obtain ⟨I1, c1, c2, c3, c4, c5, c6, c7⟩ := r_beginLaw (L := L) (I := I) (J := J) hR q' a'
    refine ⟨I1, J, ?_, r_lawR hM (c7 46 (by decide) (by decide) (by decide)) (c7 47 (by decide) (by decide) (by decide)) (c4 2 (by decide) (by decide)) c2 c3 (fun k hk => by rw [c5 k hk]; rfl) (fun n hn => by rw [c6 n hn]; rfl), fun i hi => c7 i (by omega) (by omega) (by omega)⟩
    rw [e_X7_begin, r_isShape, fp_b_t h2, fp_oI']
    simp only [Option.bind_some, fp_10, if_false, k_45, cond_true, c1, fp_oV']
theorem c_lhasRows {q a : Nat} (h0 : I 34 0 = nI q) (h1 : I 34 1 = nI a) (hq : q ≤ 3) (ha : a ≤ 3) {x y : Int32} : (fp_rowb x q ∧ fp_rowb y a → pm_C mX3_hasRows [.ref 34, .int x, .int y] (fp_m L R I J) = some (.int 1, fp_m L R I J)) ∧ (¬ (fp_rowb x q ∧ fp_rowb y a) → pm_C mX3_hasRows [.ref 34, .int x, .int y] (fp_m L R I J) = some (.int 0, fp_m L R I J)) := by
  constructor
  · rintro ⟨g1, g2⟩
    rw [e_X3_hasRows]
    simp only [gi_34, h0, h1, Option.bind_some, c_isRow _ hq g1, c_isRow _ ha g2, fp_oI', fp_10, if_false]
  · intro h
    rw [e_X3_hasRows]
    by_cases g1 : fp_rowb x q
    · simp only [gi_34, h0, h1, Option.bind_some, c_isRow _ hq g1, c_isRow0 _ ha (fun q => h ⟨g1, q⟩), fp_oI', fp_10, if_false, if_true]
    · simp only [gi_34, h0, h1, Option.bind_some, c_isRow0 _ hq g1, fp_oI', if_true]
theorem fp_m1000 : (-1000 : Int32).toInt = -1000 := by decide
theorem fp_1000 : (1000 : Int32).toInt = 1000 := by decide
theorem b_weigh (hR : fp_RK R) (x y v : Int32) : fp_Both L R mX6_weigh mX7_weigh [.int x, .int y, .int v] := by
  intro S hok
  obtain ⟨q1, q2, q3, q4, q5, q6⟩ := hok.2.2.1
  by_cases h1 : fp_rowb x S.2.2.1 ∧ fp_rowb y S.2.2.2.1
  case neg =>
    refine ⟨S, pm_BAD, hok, fp_Cs.same fun I J hC => ?_, fp_Ms.same fun I J hM => ?_⟩
    · rw [e_X6_weigh]
      simp only [gr_1_2 hR, Option.bind_some, k_34, cond_true, (c_lhasRows (L := L) (R := R) (J := J) hC.2.2.1.1 hC.2.2.1.2.1 q2 q4).2 h1, fp_oI', if_true]
    · rw [e_X7_weigh]
      simp only [gi_45, hM.2.2.1.1, hM.2.2.1.2.1, Option.bind_some]
      by_cases g1 : fp_rowb x S.2.2.1
      · simp only [r_isPair _ q2 g1, fp_oI', Option.bind_some, fp_10, if_false, gi_45, hM.2.2.1.2.1, r_isPair0 _ q4 (fun q => h1 ⟨g1, q⟩), if_true]
      · simp only [r_isPair0 _ q2 g1, fp_oI', Option.bind_some, if_true]
  by_cases h2 : -1000 ≤ v.toInt ∧ v.toInt ≤ 1000
  case neg =>
    refine ⟨S, pm_BAD, hok, fp_Cs.same fun I J hC => ?_, fp_Ms.same fun I J hM => ?_⟩
    · rw [e_X6_weigh]
      simp only [gr_1_2 hR, Option.bind_some, k_34, cond_true, (c_lhasRows (L := L) (R := R) (J := J) hC.2.2.1.1 hC.2.2.1.2.1 q2 q4).1 h1, fp_oI', fp_10, if_false, Int32.lt_iff_toInt_lt, Int32.le_iff_toInt_le, fp_m1000, fp_1000]
      by_cases h3 : v.toInt < -1000
      · rw [if_pos h3]
      · rw [if_neg h3, if_neg (by omega)]
    · rw [e_X7_weigh]
      simp only [gi_45, hM.2.2.1.1, hM.2.2.1.2.1, Option.bind_some, r_isPair _ q2 h1.1, r_isPair _ q4 h1.2, fp_oI', fp_10, if_false]
      rw [r_isIn0 _ (by rw [fp_w]; exact h2), fp_oI']
      rfl
  obtain ⟨x', x1, x2, x3, rfl⟩ := fp_rowb_of h1.1
  obtain ⟨y', y1, y2, y3, rfl⟩ := fp_rowb_of h1.2
  have hin := fp_in_row x1 x2 x3 y1 y2 y3
  have hv : v = Int32.ofInt v.toInt := (Int32.ofInt_toInt _).symm
  refine ⟨fp_law S S.2.2.1 S.2.2.2.1 (va_up S.2.2.2.2.1 (9 * x' + y') v.toInt) S.2.2.2.2.2, (Int32.ofInt (S.2.2.2.2.1 (9 * x' + y'))).toInt64, fp_law_ok hok q1 q2 q3 q4 (fun k => ?_) (fun k hk => ?_) hok.2.2.2.1 hok.2.2.2.2, fun I J hC => ?_, fun I J hM => ?_⟩
  · by_cases e : k = 9 * x' + y'
    · rw [e, pm_up_same]; exact h2
    · rw [pm_up_other _ _ e]; exact q5 k
  · have e : k ≠ 9 * x' + y' := fun e => hk (by rw [e]; exact hin)
    rw [pm_up_other _ _ e]; exact q6 k hk
  · refine ⟨_, J, ?_, c_lawR (I' := va_up I 35 (va_up (I 35) (9 * x' + y') v)) hok hC (fun i g1 g2 => pm_up_other _ _ (by omega)) ?_ ?_ (fun k hk => ?_) (fp_shC_cong hC.2.2.2 (pm_up_other _ _ (by decide)) (pm_up_other _ _ (by decide)) (pm_up_other _ _ (by decide))), fun i hi => pm_up_other _ _ (by omega)⟩
    · rw [e_X6_weigh]
      simp only [gr_1_2 hR, Option.bind_some, k_34, cond_true, (c_lhasRows (L := L) (R := R) (J := J) hC.2.2.1.1 hC.2.2.1.2.1 q2 q4).1 h1, fp_oI', fp_10, if_false, Int32.lt_iff_toInt_lt, Int32.le_iff_toInt_le, fp_m1000, fp_1000]
      rw [if_neg (by omega), if_pos h2.2]
      simp only [gr_34_2 hR, Option.bind_some, nm_9, nI_add]
      rw [ai_35 (by omega), Option.bind_some, si_35 (by omega), Option.bind_some, hC.2.2.1.2.2 _ (by omega)]
    · rw [pm_up_other _ _ (by decide)]; exact hC.2.2.1.1
    · rw [pm_up_other _ _ (by decide)]; exact hC.2.2.1.2.1
    · rw [pm_up_same]
      by_cases e : k = 9 * x' + y'
      · rw [e, pm_up_same, pm_up_same]; exact hv
      · rw [pm_up_other _ _ e, pm_up_other _ _ e]; exact hC.2.2.1.2.2 k hk
  · refine ⟨_, J, ?_, r_lawR (I' := va_up I 48 (va_up (I 48) (9 * x' + y') v)) hM (pm_up_other _ _ (by decide)) (pm_up_other _ _ (by decide)) (by rw [pm_up_other _ _ (by decide)]) ?_ ?_ (fun k hk => ?_) (fun n hn => ?_), fun i hi => pm_up_other _ _ (by omega)⟩
    · rw [e_X7_weigh]
      simp only [gi_45, hM.2.2.1.1, hM.2.2.1.2.1, Option.bind_some, r_isPair _ q2 h1.1, r_isPair _ q4 h1.2, fp_oI', fp_10, if_false]
      rw [r_isIn1 _ (by rw [fp_w]; exact h2), fp_oI']
      simp only [Option.bind_some, fp_10, if_false, gr_45_5 hR, nm_9, nI_add]
      rw [ai_48 (by omega), Option.bind_some, si_48 (by omega), Option.bind_some, hM.2.2.1.2.2 _ (by omega)]
    · rw [pm_up_other _ _ (by decide)]; exact hM.2.2.1.1
    · rw [pm_up_other _ _ (by decide)]; exact hM.2.2.1.2.1
    · rw [pm_up_same]
      by_cases e : k = 9 * x' + y'
      · rw [e, pm_up_same, pm_up_same]; exact hv
      · rw [pm_up_other _ _ e, pm_up_other _ _ e]; exact hM.2.2.1.2.2 k hk
    · rw [pm_up_other _ _ (by decide)]; exact hM.2.2.2 n hn
/-! take -/
def fp_sg (k i : Nat) : Int32 := if i = k / 2 then (if k % 2 = 1 then 1 else -1) else (if k % 2 = 1 then -1 else 1)
def fp_tkC (k : Nat) (g : Nat → Int32) : Nat → (Nat → Int32)
  | 0 => g
  | i + 1 => va_up (va_up (va_up (va_up (fp_tkC k g i) (27 * (i / 2) + 9 * (i % 2)) (fp_sg k i)) (27 * (i / 2) + 9 * (i % 2) + 4) (fp_sg k i)) (27 * (i / 2) + 9 * (i % 2) + 1) (-fp_sg k i)) (27 * (i / 2) + 9 * (i % 2) + 3) (-fp_sg k i)
def fp_tkR (k : Nat) (g : Nat → Int32) : Nat → (Nat → Int32)
  | 0 => g
  | i + 1 => va_up (va_up (va_up (va_up (fp_tkR k g i) (27 * (i / 2) + 9 * (i % 2)) (fp_sg k i)) (27 * (i / 2) + 9 * (i % 2) + 1) (-fp_sg k i)) (27 * (i / 2) + 9 * (i % 2) + 3) (-fp_sg k i)) (27 * (i / 2) + 9 * (i % 2) + 4) (fp_sg k i)
theorem fp_tkC_cg {k j : Nat} {g g' : Nat → Int32} (h : g j = g' j) : ∀ i, fp_tkC k g i j = fp_tkC k g' i j
  | 0 => h
  | i + 1 => fp_up_cg (fp_up_cg (fp_up_cg (fp_up_cg (fp_tkC_cg h i))))
theorem fp_tkR_cg {k j : Nat} {g g' : Nat → Int32} (h : g j = g' j) : ∀ i, fp_tkR k g i j = fp_tkR k g' i j
  | 0 => h
  | i + 1 => fp_up_cg (fp_up_cg (fp_up_cg (fp_up_cg (fp_tkR_cg h i))))
def fp_tw (k j : Nat) : Int := if j < 81 then (fp_tkC k (fun _ => 0) 4 j).toInt else 0
theorem fp_tk_all : ∀ k, k < 8 → ∀ j, j < 81 → (fp_tkR k (fun _ => 0) 4 j = fp_tkC k (fun _ => 0) 4 j ∧ -1000 ≤ (fp_tkC k (fun _ => 0) 4 j).toInt ∧ (fp_tkC k (fun _ => 0) 4 j).toInt ≤ 1000) ∧ ((j / 27 < 2 ∧ j / 9 % 3 < 2 ∧ j / 3 % 3 < 2 ∧ j % 3 < 2) ∨ (fp_tkC k (fun _ => 0) 4 j).toInt = 0) := by decide +kernel
theorem fp_tw_b {k : Nat} (hk : k < 8) (j : Nat) : -1000 ≤ fp_tw k j ∧ fp_tw k j ≤ 1000 := by
  unfold fp_tw
  by_cases h : j < 81
  · rw [if_pos h]; exact (fp_tk_all k hk j h).1.2
  · rw [if_neg h]; decide
theorem fp_tw_0 {k : Nat} (hk : k < 8) (j : Nat) (h : ¬ fp_in 2 2 j) : fp_tw k j = 0 := by
  unfold fp_tw
  by_cases g : j < 81
  · rw [if_pos g]
    rcases (fp_tk_all k hk j g).2 with q | q
    · exact absurd ⟨g, q⟩ h
    · exact q
  · rw [if_neg g]
theorem c_sp00 (M : pm_M) (x y : Nat) : pm_C mX6_spot [.int (nI x), .int (nI y), .int 0, .int 0] M = some (.int (nI (27 * x + 9 * y)), M) := c_spot M x y 0 0
theorem c_sp11 (M : pm_M) (x y : Nat) : pm_C mX6_spot [.int (nI x), .int (nI y), .int 1, .int 1] M = some (.int (nI (27 * x + 9 * y + 4)), M) := c_spot M x y 1 1
theorem c_sp01 (M : pm_M) (x y : Nat) : pm_C mX6_spot [.int (nI x), .int (nI y), .int 0, .int 1] M = some (.int (nI (27 * x + 9 * y + 1)), M) := c_spot M x y 0 1
theorem c_sp10 (M : pm_M) (x y : Nat) : pm_C mX6_spot [.int (nI x), .int (nI y), .int 1, .int 0] M = some (.int (nI (27 * x + 9 * y + 3)), M) := c_spot M x y 1 0
theorem c_takeSg (M : pm_M) {k i : Nat} (hk : k < 8) (hi : i < 4) : pm_res mX3_becomeCornerLaw 8 [(0, .ref 34), (1, .int (nI k)), (2, .int (nI i))] [] M = pm_res mX3_becomeCornerLaw 55 [(0, .ref 34), (1, .int (nI k)), (2, .int (nI i))] [.int (fp_sg k i)] M := by
  rw [e_X3_becomeCornerLaw_8, if_neg (fp_ge hi (by decide)), nd_2 (by omega)]
  unfold fp_sg
  by_cases e : i = k / 2
  · rw [if_pos (by rw [← e]), e_X3_becomeCornerLaw_25, nq_2 (by omega), if_pos e]
    by_cases e2 : k % 2 = 1
    · rw [if_pos (fp_eqR e2), if_pos rfl, e_X3_becomeCornerLaw_45, if_pos rfl, if_pos e2]
    · rw [if_neg (fp_ne e2 (by omega) (by decide)), if_neg (by decide), e_X3_becomeCornerLaw_45, if_neg (by decide), if_neg e2]
  · rw [if_neg (by rw [nI_eq (by omega) (by omega)]; exact e), e_X3_becomeCornerLaw_25, nq_2 (by omega), if_neg e]
    by_cases e2 : k % 2 = 1
    · rw [if_pos (fp_eqR e2), if_neg (by decide), e_X3_becomeCornerLaw_45, if_neg (by decide), if_pos e2]
    · rw [if_neg (fp_ne e2 (by omega) (by decide)), if_pos rfl, e_X3_becomeCornerLaw_45, if_pos rfl, if_neg e2]
theorem c_become (hR : fp_RK R) {k : Nat} (hk : k < 8) : ∃ I', pm_C mX3_becomeCornerLaw [.ref 34, .int (nI k)] (fp_m L R I J) = some (.null, fp_m L R I' J) ∧ I' 34 0 = nI 2 ∧ I' 34 1 = nI 2 ∧ (∀ j, j < 81 → I' 35 j = Int32.ofInt (fp_tw k j)) ∧ ∀ i, i ≠ 34 → i ≠ 35 → I' i = I i := by
  obtain ⟨I1, c1, c2, c3, c4, c5⟩ := c_lrestart (L := L) (I := I) (J := J) hR 2 2
  have key := fp_lp0 (fun i => pm_res mX3_becomeCornerLaw 8 [(0, .ref 34), (1, .int (nI k)), (2, .int (nI i))] [] (fp_m L R (va_up I1 35 (fp_tkC k (I1 35) i)) J)) 4 (fun i hi => by
    show pm_res mX3_becomeCornerLaw 8 [(0, .ref 34), (1, .int (nI k)), (2, .int (nI i))] [] (fp_m L R (va_up I1 35 (fp_tkC k (I1 35) i)) J) = pm_res mX3_becomeCornerLaw 8 [(0, .ref 34), (1, .int (nI k)), (2, .int (nI (i + 1)))] [] (fp_m L R (va_up I1 35 (fp_tkC k (I1 35) (i + 1))) J)
    rw [c_takeSg _ hk hi, e_X3_becomeCornerLaw_55, nd_2 (by omega), nq_2 (by omega)]
    simp only [gr_34_2 hR, Option.bind_some, c_sp00, c_sp11, c_sp01, c_sp10, fp_oI']
    rw [si_35 (by omega), Option.bind_some]
    simp only [gr_34_2 hR, Option.bind_some, c_sp00, c_sp11, c_sp01, c_sp10, fp_oI']
    rw [si_35 (by omega), Option.bind_some]
    simp only [gr_34_2 hR, Option.bind_some, c_sp00, c_sp11, c_sp01, c_sp10, fp_oI']
    rw [si_35 (by omega), Option.bind_some]
    simp only [gr_34_2 hR, Option.bind_some, c_sp00, c_sp11, c_sp01, c_sp10, fp_oI']
    rw [si_35 (by omega), Option.bind_some]
    simp only [pm_up_same, bx_uu, nI_1, fp_tkC])
  rw [show fp_tkC k (I1 35) 0 = I1 35 from rfl, fp_ups] at key
  refine ⟨va_up I1 35 (fp_tkC k (I1 35) 4), ?_, ?_, ?_, fun j hj => ?_, fun i g1 g2 => ?_⟩
  · rw [e_X3_becomeCornerLaw, k_34, cond_true, show pm_C mX3_restart [.ref 34, .int 2, .int 2] (fp_m L R I J) = _ from c1, fp_oV', Option.bind_some, show pm_res mX3_becomeCornerLaw 8 [(0, .ref 34), (1, .int (nI k)), (2, .int 0)] [] (fp_m L R I1 J) = _ from key, e_X3_becomeCornerLaw_8, if_pos (fp_le (Nat.le_refl _) (by decide))]
  · rw [pm_up_other _ _ (by decide)]; exact c2
  · rw [pm_up_other _ _ (by decide)]; exact c3
  · rw [pm_up_same, fp_tkC_cg (g' := fun _ => 0) (c4 j hj)]
    unfold fp_tw
    rw [if_pos hj]
    exact (Int32.ofInt_toInt _).symm
  · rw [pm_up_other _ _ g2]; exact c5 i g1 g2
theorem r_takeIn (hR : fp_RK R) {k i j : Nat} (hi : i < 4) (hj : j < 4) (s : Int32) : pm_res mX7_take 58 [(0, .ref 45), (1, .int (nI k)), (2, .int (nI i)), (3, .int s), (4, .int (nI j))] [] (fp_m L R I J) = pm_res mX7_take 58 [(0, .ref 45), (1, .int (nI k)), (2, .int (nI i)), (3, .int s), (4, .int (nI (j + 1)))] [] (fp_m L R (va_up I 48 (va_up (I 48) (27 * (i / 2) + 9 * (i % 2) + 3 * (j / 2) + j % 2) (if j = 0 ∨ j = 3 then s else -s))) J) := by
  rw [e_X7_take_58, if_neg (fp_ge hj (by decide)), nd_2 (by omega), nq_2 (by omega), nd_2 (by omega), nq_2 (by omega)]
  simp only [gr_45_5 hR, Option.bind_some, r_place, fp_oI', nI_1]
  by_cases e0 : j = 0
  · rw [if_pos (fp_eqR e0), si_48 (by omega), Option.bind_some, if_pos (Or.inl e0)]
  · rw [if_neg (fp_ne e0 (by omega) (by decide))]
    by_cases e3 : j = 3
    · rw [if_pos (fp_eqR e3), si_48 (by omega), Option.bind_some, if_pos (Or.inr e3)]
    · rw [if_neg (fp_ne e3 (by omega) (by decide)), si_48 (by omega), Option.bind_some, if_neg (by omega)]
theorem r_takeSg (M : pm_M) {k i : Nat} (hk : k < 8) (hi : i < 4) : pm_res mX7_take 24 [(0, .ref 45), (1, .int (nI k)), (2, .int (nI i))] [] M = pm_res mX7_take 58 [(0, .ref 45), (1, .int (nI k)), (2, .int (nI i)), (3, .int (fp_sg k i)), (4, .int (nI 0))] [] M := by
  rw [e_X7_take_24, if_neg (fp_ge hi (by decide)), nd_2 (by omega)]
  unfold fp_sg
  by_cases e : i = k / 2
  · rw [if_pos (by rw [← e]), e_X7_take_41, nq_2 (by omega), if_pos e]
    by_cases e2 : k % 2 = 1
    · rw [if_pos (fp_eqR e2), if_pos e2]; rfl
    · rw [if_neg (fp_ne e2 (by omega) (by decide)), if_neg e2]; rfl
  · rw [if_neg (by rw [nI_eq (by omega) (by omega)]; exact e), e_X7_take_41, nq_2 (by omega), if_neg e]
    by_cases e2 : k % 2 = 1
    · rw [if_pos (fp_eqR e2), if_pos e2]; rfl
    · rw [if_neg (fp_ne e2 (by omega) (by decide)), if_neg e2]; rfl
theorem r_takeLoop (hR : fp_RK R) {k : Nat} (hk : k < 8) : pm_res mX7_take 24 [(0, .ref 45), (1, .int (nI k)), (2, .int 0)] [] (fp_m L R I J) = some (.long 0, fp_m L R (va_up I 48 (fp_tkR k (I 48) 4)) J) := by
  have key := fp_lp0 (fun i => pm_res mX7_take 24 [(0, .ref 45), (1, .int (nI k)), (2, .int (nI i))] [] (fp_m L R (va_up I 48 (fp_tkR k (I 48) i)) J)) 4 (fun i hi => by
    show pm_res mX7_take 24 [(0, .ref 45), (1, .int (nI k)), (2, .int (nI i))] [] (fp_m L R (va_up I 48 (fp_tkR k (I 48) i)) J) = pm_res mX7_take 24 [(0, .ref 45), (1, .int (nI k)), (2, .int (nI (i + 1)))] [] (fp_m L R (va_up I 48 (fp_tkR k (I 48) (i + 1))) J)
    rw [r_takeSg _ hk hi, r_takeIn hR hi (by decide), r_takeIn hR hi (by decide), r_takeIn hR hi (by decide), r_takeIn hR hi (by decide), e_X7_take_58, if_pos (by decide), nI_1]
    simp only [pm_up_same, bx_uu]
    rfl)
  rw [show fp_tkR k (I 48) 0 = I 48 from rfl, fp_ups] at key
  rw [show pm_res mX7_take 24 [(0, .ref 45), (1, .int (nI k)), (2, .int 0)] [] (fp_m L R I J) = _ from key, e_X7_take_24, if_pos (fp_le (Nat.le_refl _) (by decide))]
theorem b_take (hR : fp_RK R) (k : Int32) : fp_Both L R mX6_take mX7_take [.int k] := by
  intro S hok
  by_cases h2 : 0 ≤ k.toInt ∧ k.toInt < 8
  case neg =>
    refine ⟨S, pm_BAD, hok, fp_Cs.same fun I J hC => ?_, fp_Ms.same fun I J hM => ?_⟩
    · rw [e_X6_take]
      by_cases h3 : k < 0
      · rw [if_pos h3]
      · rw [if_neg h3, if_neg]
        simp only [Int32.lt_iff_toInt_lt] at h3 ⊢
        simp at h3 ⊢
        omega
    · rw [e_X7_take, r_isIn0 _ (fp_isIn0 (n := 7) (by decide) h2), fp_oI']
      rfl
  obtain ⟨k', hk, rfl⟩ := fp_nat (k := 8) h2.1 h2.2 (by decide)
  have hin := fp_isIn1 (w := k') (k := 7) (by omega) (show (k' : Int) ≤ 7 by omega)
  refine ⟨fp_law S 2 2 (fp_tw k') (fun _ => 0), 0, fp_law_ok hok (by decide) (by decide) (by decide) (by decide) (fp_tw_b hk) (fp_tw_0 hk) (fun _ => Nat.zero_le _) (fun _ _ => rfl), fun I J hC => ?_, fun I J hM => ?_⟩
  · obtain ⟨I1, c1, c2, c3, c4, c5⟩ := c_become (L := L) (I := I) (J := J) hR hk
    refine ⟨_, J, ?_, c_lawR (I' := va_up I1 37 (va_up (I1 37) 2 0)) hok hC (fun i g1 g2 => ?_) ?_ ?_ (fun k hk => ?_) (fp_shC_0 ?_), fun i hi => ?_⟩
    · rw [e_X6_take, if_neg (nI_pos (by omega)), if_pos (fp_ltR hk (by decide))]
      simp only [Option.bind_some, gr_1_2 hR, k_34, cond_true, c1, fp_oV', gr_1_3 hR, k_37, e_X4_drop, pi_37]
    · rw [pm_up_other _ _ (by omega), c5 i (by omega) (by omega)]
    · rw [pm_up_other _ _ (by decide)]; exact c2
    · rw [pm_up_other _ _ (by decide)]; exact c3
    · rw [pm_up_other _ _ (by decide)]; exact c4 k hk
    · simp [va_up]
    · rw [pm_up_other _ _ (by omega), c5 i (by omega) (by omega)]
  · obtain ⟨I1, c1, c2, c3, c4, c5, c6, c7⟩ := r_beginLaw (L := L) (I := I) (J := J) hR 2 2
    refine ⟨_, J, ?_, r_lawR (I' := va_up I1 48 (fp_tkR k' (I1 48) 4)) hM ?_ ?_ ?_ ?_ ?_ (fun j hj => ?_) (fun n hn => ?_), fun i hi => ?_⟩
    · rw [e_X7_take, r_isIn1 _ hin, fp_oI']
      simp only [Option.bind_some, fp_10, if_false, k_45, cond_true]
      rw [show pm_C mX7_beginLaw [.ref 45, .int 2, .int 2] (fp_m L R I J) = _ from c1, fp_oV', Option.bind_some, r_takeLoop hR hk]
    · rw [pm_up_other _ _ (by decide)]; exact c7 46 (by decide) (by decide) (by decide)
    · rw [pm_up_other _ _ (by decide)]; exact c7 47 (by decide) (by decide) (by decide)
    · rw [pm_up_other _ _ (by decide)]; exact c4 2 (by decide) (by decide)
    · rw [pm_up_other _ _ (by decide)]; exact c2
    · rw [pm_up_other _ _ (by decide)]; exact c3
    · rw [pm_up_same, fp_tkR_cg (g' := fun _ => 0) (c5 j hj), (fp_tk_all k' hk j hj).1.1]
      unfold fp_tw
      rw [if_pos hj]
      exact (Int32.ofInt_toInt _).symm
    · rw [pm_up_other _ _ (by decide), c6 n hn]; rfl
    · rw [pm_up_other _ _ (by omega)]; exact c7 i (by omega) (by omega) (by omega)
end FpLawH
