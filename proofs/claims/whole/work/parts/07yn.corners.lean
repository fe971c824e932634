/-! best: corners -/
theorem fp_sz_up {g : Nat → Int} {j : Nat} : ∀ {N : Nat}, j < N → fp_sz g N = fp_sz (va_up g j 0) N + g j
  | 0, h => absurd h (Nat.not_lt_zero j)
  | N + 1, h => by
    rw [fp_sz, fp_sz]
    by_cases e : j = N
    · subst e
      rw [pm_up_same, fp_sz_cong (g := va_up g j 0) j (fun i hi => (pm_up_other _ _ (by omega)).symm)]
      omega
    · have := fp_sz_up (g := g) (j := j) (N := N) (by omega)
      rw [pm_up_other _ _ (show N ≠ j by omega)]
      omega
theorem fp_sz_0 {g : Nat → Int} : ∀ {N : Nat}, (∀ k, k < N → g k = 0) → fp_sz g N = 0
  | 0, _ => rfl
  | N + 1, h => by rw [fp_sz, fp_sz_0 (fun k hk => h k (by omega)), h N (by omega)]; rfl
theorem fp_rz {num : Nat → Nat} {N : Nat} : ∀ {n : Nat} {g : Nat → Int}, (∀ i, i < n → num i < N) → (∀ i j, i < n → j < n → num i = num j → i = j) → (∀ k, k < N → g k ≠ 0 → ∃ i, i < n ∧ num i = k) → fp_sz g N = fp_sz (fun i => g (num i)) n
  | 0, g, _, _, h3 => fp_sz_0 (fun k hk => by
    apply Classical.byContradiction
    intro q
    obtain ⟨i, hi, _⟩ := h3 k hk q
    omega)
  | n + 1, g, h1, h2, h3 => by
    rw [fp_sz_up (h1 n (by omega)), fp_sz, fp_rz (n := n) (g := va_up g (num n) 0) (fun i hi => h1 i (by omega)) (fun i j hi hj => h2 i j (by omega) (by omega)) (fun k hk hne => by
      by_cases e : k = num n
      · rw [e, pm_up_same] at hne; exact absurd rfl hne
      · rw [pm_up_other _ _ e] at hne
        obtain ⟨i, hi, he⟩ := h3 k hk hne
        refine ⟨i, ?_, he⟩
        rcases (by omega : i < n ∨ i = n) with q | q
        · exact q
        · rw [q] at he; exact absurd he.symm e)]
    congr 1
    exact fp_sz_cong n (fun i hi => pm_up_other _ _ (fun e => by have := h2 i n (by omega) (by omega) e; omega))
theorem fp_hP_d {k i : Nat} (hi : i < 4) : fp_hP 2 2 k i < 81 ∧ fp_hP 2 2 k i / 27 = i / 2 ∧ fp_hP 2 2 k i / 9 % 3 = i % 2 ∧ fp_hP 2 2 k i / 3 % 3 = fp_dg 2 (k / 2 ^ 2) (i / 2) ∧ fp_hP 2 2 k i % 3 = fp_dg 2 (k % 2 ^ 2) (i % 2) := by
  have u := fp_dg_lt (n := k / 2 ^ 2) (x := i / 2) (Nat.le_refl 2)
  have w := fp_dg_lt (n := k % 2 ^ 2) (x := i % 2) (Nat.le_refl 2)
  unfold fp_hP
  generalize fp_dg 2 (k / 2 ^ 2) (i / 2) = u' at *
  generalize fp_dg 2 (k % 2 ^ 2) (i % 2) = w' at *
  obtain ⟨e1, e2, e3, e4, -⟩ := fp_jc (x := i / 2) (show i % 2 < 3 by omega) (show u' < 3 by omega) (show w' < 3 by omega)
  exact ⟨by omega, e1, e2, e3, e4⟩
theorem fp_va_sure (W : Nat → Int) (k : Nat) : fp_va W (fp_ad 2 2 k 1 (fun _ => 0)) = fp_sv W 2 2 k := by
  unfold fp_va
  rw [fp_rz (num := fp_hP 2 2 k) (n := 4) (fun i hi => (fp_hP_d hi).1) (fun i j hi hj e => ?_) (fun j hj hne => ?_)]
  · have one : ∀ i, i < 4 → W (fp_hP 2 2 k i) * ((fp_ad 2 2 k 1 (fun _ => 0) (fp_hP 2 2 k i) : Nat) : Int) = W (fp_hP 2 2 k i) := by
      intro i hi
      obtain ⟨d0, d1, d2, d3, d4⟩ := fp_hP_d (k := k) hi
      unfold fp_ad
      rw [if_pos ⟨d0, by omega, by omega, by rw [d1]; exact d3, by rw [d2]; exact d4⟩]
      simp
    rw [fp_sz_cong 4 one]
    unfold fp_sv
    simp only [fp_sz]
    unfold fp_hP
    simp only [Nat.reduceDiv, Nat.reduceMod, Nat.reducePow]
    omega
  · have h1 := fp_hP_d (k := k) hi
    have h2 := fp_hP_d (k := k) hj
    rw [e] at h1
    omega
  · have hh : fp_hit 2 2 k j := by
      apply Classical.byContradiction
      intro g
      apply hne
      unfold fp_ad
      rw [if_neg g]
      simp
    obtain ⟨p1, p2, p3, p4, p5⟩ := hh
    refine ⟨2 * (j / 27) + j / 9 % 3, by omega, ?_⟩
    unfold fp_hP
    rw [show (2 * (j / 27) + j / 9 % 3) / 2 = j / 27 by omega, show (2 * (j / 27) + j / 9 % 3) % 2 = j / 9 % 3 by omega, ← p4, ← p5]
    omega
def fp_cx (i : Nat) : Nat := 27 * (i / 8) + 9 * (i / 4 % 2) + 3 * (i / 2 % 2) + i % 2
theorem fp_va_co (W : Nat → Int) (k : Nat) : fp_va W (fp_co k) = fp_sz (fun i => if (i / 2 % 2 + i % 2) % 2 = fp_od k (i / 8) (i / 4 % 2) then W (fp_cx i) else 0) 16 := by
  unfold fp_va
  rw [fp_rz (num := fp_cx) (n := 16) (fun i hi => by unfold fp_cx; omega) (fun i j hi hj e => by unfold fp_cx at e; omega) (fun j hj hne => ?_)]
  · refine fp_sz_cong 16 (fun i hi => ?_)
    show W (fp_cx i) * ((fp_co k (fp_cx i) : Nat) : Int) = _
    unfold fp_cx
    rw [fp_co_at (by omega) (by omega) (by omega) (by omega)]
    split
    · simp
    · simp
  · have hh : fp_pa k j := by
      apply Classical.byContradiction
      intro g
      apply hne
      unfold fp_co
      rw [if_neg g]
      simp
    obtain ⟨⟨p1, p2, p3, p4, p5⟩, -⟩ := hh
    clear hne
    obtain ⟨x, y, a, b, hx, hy, ha, hb, rfl⟩ := fp_jd hj
    obtain ⟨e1, e2, e3, e4, -⟩ := fp_jc (x := x) hy ha hb
    rw [e1] at p2
    rw [e2] at p3
    rw [e3] at p4
    rw [e4] at p5
    refine ⟨8 * x + 4 * y + 2 * a + b, by omega, ?_⟩
    unfold fp_cx
    rw [show (8 * x + 4 * y + 2 * a + b) / 8 = x by omega, show (8 * x + 4 * y + 2 * a + b) / 4 % 2 = y by omega, show (8 * x + 4 * y + 2 * a + b) / 2 % 2 = a by omega, show (8 * x + 4 * y + 2 * a + b) % 2 = b by omega]
def fp_tc (W : Nat → Int) (k : Nat) : Int := if k < 16 then 2 * fp_sv W 2 2 k else fp_va W (fp_co k)
theorem fp_tc_b {W : Nat → Int} (hW : ∀ k, -1000 ≤ W k ∧ W k ≤ 1000) (k : Nat) : -81000000000 ≤ fp_tc W k ∧ fp_tc W k ≤ 81000000000 := by
  unfold fp_tc
  by_cases h : k < 16
  · rw [if_pos h]
    have := fp_sv_b hW (q := 2) (by decide) 2 k
    omega
  · rw [if_neg h]
    exact fp_va_b hW (fun j => by unfold fp_co; split <;> omega)
def fp_ma (v : Nat → Int) : Nat → Nat
  | 0 => 0
  | n + 1 => if v (fp_ma v n) < v (n + 1) then n + 1 else fp_ma v n
theorem fp_ma_le (v : Nat → Int) : ∀ n, fp_ma v n ≤ n
  | 0 => Nat.le_refl _
  | n + 1 => by
    have := fp_ma_le v n
    rw [fp_ma]
    split <;> omega
section FpCorners
variable {L : Nat} {R : Nat → Nat → Option Nat} {I : Nat → Nat → Int32} {J : Nat → Nat → Int64}
theorem c_sumOver (hR : fp_RK R) {W : Nat → Int} {c : Nat → Nat} (hW : ∀ k, -1000 ≤ W k ∧ W k ≤ 1000) (h35 : ∀ k, k < 81 → I 35 k = zI (W k)) (h41 : ∀ j, j < 81 → J 41 j = lN (c j)) : pm_C mX3_sumOver [.ref 34, .ref 41] (fp_m L R I J) = some (.long (zL (fp_va W c)), fp_m L R I J) := by
  have key := fp_lp0 (fun i => pm_res mX3_sumOver 5 [(0, .ref 34), (1, .ref 41), (2, .long (zL (fp_sz (fun k => W k * (c k : Int)) i))), (4, .int (nI i))] [] (fp_m L R I J)) 81 (fun i hi => by
    have hw := hW i
    show pm_res mX3_sumOver 5 [(0, .ref 34), (1, .ref 41), (2, .long (zL (fp_sz (fun k => W k * (c k : Int)) i))), (4, .int (nI i))] [] (fp_m L R I J) = pm_res mX3_sumOver 5 [(0, .ref 34), (1, .ref 41), (2, .long (zL (fp_sz (fun k => W k * (c k : Int)) (i + 1)))), (4, .int (nI (i + 1)))] [] (fp_m L R I J)
    rw [e_X3_sumOver_5, if_neg (fp_ge hi (by decide)), al_41, Option.bind_some, if_neg (nI_ge hi (by decide))]
    simp only [gr_34_2 hR, Option.bind_some, ai_35 hi, ai_41 hi, h35 i hi, h41 i hi, nI_1]
    rw [zI_l (by omega) (by omega), zL_n, zL_mul, zL_add]
    rfl)
  rw [e_X3_sumOver]
  refine (show pm_res mX3_sumOver 5 [(0, .ref 34), (1, .ref 41), (2, .long 0), (4, .int 0)] [] (fp_m L R I J) = _ from key).trans ?_
  rw [e_X3_sumOver_5, if_pos (fp_le (Nat.le_refl _) (by decide))]
  rfl
theorem c_twice (hR : fp_RK R) {W : Nat → Int} (hW : ∀ k, -1000 ≤ W k ∧ W k ≤ 1000) (h35 : ∀ k, k < 81 → I 35 k = zI (W k)) {k : Nat} (hk : k < 24) : ∃ I' J', pm_C mX6_twiceAtCorner [.ref 1, .int (nI k)] (fp_m L R I J) = some (.long (zL (fp_tc W k)), fp_m L R I' J') ∧ ∀ i, i ≠ 40 → I' i = I i := by
  obtain ⟨I1, J1, c1, ⟨c2, c3, c4, c5⟩, c6⟩ := c_startCorner (L := L) (I := I) (J := J) hR hk
  have so := c_sumOver (L := L) (I := I1) (J := J1) hR hW (fun j hj => by rw [c6 35 (by decide)]; exact h35 j hj) c5
  refine ⟨I1, J1, ?_, c6⟩
  rw [e_X6_twiceAtCorner]
  simp only [gr_1_4 hR, Option.bind_some, k_40, cond_true, c1, fp_oV', gl_40, c4, gr_1_2 hR, gr_40_3 hR, k_34, so, fp_oL']
  unfold fp_tc
  by_cases h : k < 16
  · rw [show fp_cW k = 1 from if_pos h, if_pos ((fp_lq1 (by decide)).mpr rfl), if_pos h, show fp_ct k = fp_ad 2 2 k 1 (fun _ => 0) from if_pos h, fp_va_sure, show (2 : Int64) = zL 2 from rfl, zL_mul]
  · rw [show fp_cW k = 2 from if_neg h, if_neg (fun q => absurd ((fp_lq1 (by decide)).mp q) (by decide)), if_neg h, show fp_ct k = fp_co k from if_neg h]
theorem c_bestCorner (hR : fp_RK R) {W : Nat → Int} (hW : ∀ k, -1000 ≤ W k ∧ W k ≤ 1000) (h35 : ∀ k, k < 81 → I 35 k = zI (W k)) : ∃ I' J', pm_C mX6_bestCorner [.ref 1] (fp_m L R I J) = some (.int (nI (fp_ma (fp_tc W) 23)), fp_m L R I' J') ∧ ∀ i, i ≠ 40 → I' i = I i := by
  obtain ⟨I1, J1, c1, c2⟩ := c_twice (L := L) (J := J) hR hW h35 (k := 0) (by decide)
  have tb := fp_tc_b hW
  obtain ⟨s2, p2, e2⟩ := fp_li0 (fun n (s : (Nat → Nat → Int32) × (Nat → Nat → Int64)) => pm_res mX6_bestCorner 11 [(0, .ref 1), (1, .int (nI (fp_ma (fp_tc W) n))), (2, .long (zL (fp_tc W (fp_ma (fp_tc W) n)))), (4, .int (nI (n + 1)))] [] (fp_m L R s.1 s.2)) (fun n s => ∀ i, i ≠ 40 → s.1 i = I i) 23 (fun n s hn p => by
    obtain ⟨I2, J2, d1, d2⟩ := c_twice (L := L) (I := s.1) (J := s.2) hR hW (fun j hj => by rw [p 35 (by decide)]; exact h35 j hj) (k := n + 1) (by omega)
    refine ⟨(I2, J2), fun i hi => (d2 i hi).trans (p i hi), ?_⟩
    have b1 := tb (n + 1)
    have b2 := tb (fp_ma (fp_tc W) n)
    rw [e_X6_bestCorner_11, if_neg (fp_ge (show n + 1 < 24 by omega) (by decide)), k_1, cond_true, d1, fp_oL', Option.bind_some, fp_ma]
    simp only [fp_cmp_le, zL_le (show -9223372036854775808 ≤ fp_tc W (n + 1) by omega) (by omega) (show -9223372036854775808 ≤ fp_tc W (fp_ma (fp_tc W) n) by omega) (by omega), nI_1]
    by_cases h : fp_tc W (fp_ma (fp_tc W) n) < fp_tc W (n + 1)
    · rw [if_neg (by omega), if_pos h]
    · rw [if_pos (by omega), if_neg h]) (s := (I1, J1)) c2
  refine ⟨s2.1, s2.2, ?_, p2⟩
  rw [e_X6_bestCorner, k_1, cond_true, show pm_C mX6_twiceAtCorner [.ref 1, .int 0] (fp_m L R I J) = _ from c1, fp_oL', Option.bind_some]
  refine (show pm_res mX6_bestCorner 11 [(0, .ref 1), (1, .int 0), (2, .long (zL (fp_tc W 0))), (4, .int 1)] [] (fp_m L R I1 J1) = _ from e2).trans ?_
  rw [e_X6_bestCorner_11, if_pos (fp_le (Nat.le_refl _) (by decide))]
theorem r_cornerValue (hR : fp_RK R) {W : Nat → Int} (hW : ∀ k, -1000 ≤ W k ∧ W k ≤ 1000) (hl : fp_lr I 2 2 W) {k : Nat} (hk : k < 24) : pm_C mX7_cornerValue [.ref 45, .int (nI k)] (fp_m L R I J) = some (.long (zL (fp_tc W k)), fp_m L R I J) := by
  unfold fp_tc
  rw [e_X7_cornerValue]
  by_cases h : k < 16
  · rw [if_neg (fp_ge h (by decide)), if_pos h, k_45, cond_true, r_sureValue hR hW hl (by decide) (by decide) (by decide) (by omega), fp_oL', Option.bind_some, show (2 : Int64) = zL 2 from rfl, zL_mul]
  · rw [if_pos (fp_le (show 16 ≤ k by omega) (by omega)), if_neg h, fp_va_co]
    have key := fp_lp0 (fun i => pm_res mX7_cornerValue 21 [(0, .ref 45), (1, .int (nI k)), (2, .long (zL (fp_sz (fun i => if (i / 2 % 2 + i % 2) % 2 = fp_od k (i / 8) (i / 4 % 2) then W (fp_cx i) else 0) i))), (4, .int (nI i))] [] (fp_m L R I J)) 16 (fun i hi => by
      have hw := hW (fp_cx i)
      have hh := r_hasCell (fp_m L R I J) (k := k - 16) (x := i / 8) (y := i / 4 % 2) (a := i / 2 % 2) (b := i % 2) (by omega) (by omega) (by omega) (by omega) (by omega)
      rw [fp_od_16 (by omega) hk] at hh
      rw [e_X7_cornerValue_21, if_neg (fp_ge hi (by decide)), show nI k - 16 = nI (k - 16) from pk_sub (b := 16) (by omega), nd_8 (by omega), nd_4 (by omega), nd_2 (by omega), nq_2 (show i / 4 < 2 ^ 31 by omega), nq_2 (show i / 2 < 2 ^ 31 by omega), nq_2 (show i < 2 ^ 31 by omega), hh, fp_oI', Option.bind_some, fp_sz]
      dsimp only
      by_cases e : (i / 2 % 2 + i % 2) % 2 = fp_od k (i / 8) (i / 4 % 2)
      · rw [if_pos e, if_neg (by decide), if_pos e, k_45, cond_true, r_weight hR hl.2.2 (by omega) (by omega) (by omega) (by omega), fp_oI', Option.bind_some]
        dsimp only
        rw [show 27 * (i / 8) + 9 * (i / 4 % 2) + 3 * (i / 2 % 2) + i % 2 = fp_cx i from rfl, zI_l (by omega) (by omega), zL_add, nI_1]
      · rw [if_neg e, if_pos rfl, if_neg e, Int.add_zero, show ∀ z : Int64, z + 0 = z from Int64.add_zero, nI_1])
    refine (show pm_res mX7_cornerValue 21 [(0, .ref 45), (1, .int (nI k)), (2, .long 0), (4, .int 0)] [] (fp_m L R I J) = _ from key).trans ?_
    rw [e_X7_cornerValue_21, if_pos (fp_le (Nat.le_refl _) (by decide))]
theorem r_bestCorner (hR : fp_RK R) {W : Nat → Int} (hW : ∀ k, -1000 ≤ W k ∧ W k ≤ 1000) (hl : fp_lr I 2 2 W) : pm_C mX7_bestCorner [.ref 45] (fp_m L R I J) = some (.int (nI (fp_ma (fp_tc W) 23)), fp_m L R I J) := by
  have tb := fp_tc_b hW
  have key := fp_lp0 (fun n => pm_res mX7_bestCorner 4 [(0, .ref 45), (1, .int (nI (fp_ma (fp_tc W) n))), (2, .int (nI (n + 1)))] [] (fp_m L R I J)) 23 (fun n hn => by
    have b1 := tb (n + 1)
    have b2 := tb (fp_ma (fp_tc W) n)
    have ml := fp_ma_le (fp_tc W) n
    rw [e_X7_bestCorner_4, if_neg (fp_ge (show n + 1 < 24 by omega) (by decide)), k_45, cond_true, r_cornerValue hR hW hl (show n + 1 < 24 by omega), fp_oL', Option.bind_some, k_45, cond_true, r_cornerValue hR hW hl (show fp_ma (fp_tc W) n < 24 by omega), fp_oL', Option.bind_some, fp_ma]
    simp only [fp_cmp_le, zL_le (show -9223372036854775808 ≤ fp_tc W (n + 1) by omega) (by omega) (show -9223372036854775808 ≤ fp_tc W (fp_ma (fp_tc W) n) by omega) (by omega), nI_1]
    by_cases h : fp_tc W (fp_ma (fp_tc W) n) < fp_tc W (n + 1)
    · rw [if_neg (by omega), if_pos h]
    · rw [if_pos (by omega), if_neg h])
  rw [e_X7_bestCorner]
  refine (show pm_res mX7_bestCorner 4 [(0, .ref 45), (1, .int 0), (2, .int 1)] [] (fp_m L R I J) = _ from key).trans ?_
  rw [e_X7_bestCorner_4, if_pos (fp_le (Nat.le_refl _) (by decide))]
end FpCorners
