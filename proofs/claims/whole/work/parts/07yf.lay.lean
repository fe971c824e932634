/-! a draft divided and laid, on both sides -/
def fp_gg (W : Nat) (c : Nat → Nat) : Nat → Nat
  | 0 => W
  | n + 1 => Nat.gcd (fp_gg W c n) (c n)
theorem fp_gg_pos {W : Nat} {c : Nat → Nat} (h : 0 < W) : ∀ n, 0 < fp_gg W c n
  | 0 => h
  | n + 1 => Nat.gcd_pos_of_pos_left _ (fp_gg_pos h n)
theorem fp_gg_dvd (W : Nat) (c : Nat → Nat) : ∀ n, fp_gg W c n ∣ W
  | 0 => Nat.dvd_refl _
  | n + 1 => Nat.dvd_trans (Nat.gcd_dvd_left _ _) (fp_gg_dvd W c n)
theorem fp_gg_le {W : Nat} {c : Nat → Nat} (h : 0 < W) (n : Nat) : fp_gg W c n ≤ W := Nat.le_of_dvd h (fp_gg_dvd W c n)
theorem fp_gg_1 {W : Nat} {c : Nat → Nat} {i : Nat} (h : fp_gg W c i = 1) : ∀ {n : Nat}, i ≤ n → fp_gg W c n = 1 := by
  intro n hn
  induction hn with
  | refl => exact h
  | step _ ih => rw [fp_gg, ih, Nat.gcd_one_left]
def fp_g (W : Nat) (c : Nat → Nat) : Nat := fp_gg W c 81
def fp_dT (q a W : Nat) (c : Nat → Nat) : fp_T := (q, a, W / fp_g W c, fun j => c j / fp_g W c)
def fp_setS (S : fp_S) (r q a W : Nat) (c : Nat → Nat) : fp_S := if W / fp_g W c ≤ 1000000 then fp_chg S r (fp_dT q a W c) else S
def fp_setV (W : Nat) (c : Nat → Nat) : Int64 := if W / fp_g W c ≤ 1000000 then lN (W / fp_g W c) else pm_FULL
theorem fp_set_ok {S : fp_S} (hok : fp_ok S) {r q a W : Nat} {c : Nat → Nat} (hr : r < 8) (h1 : 1 ≤ q) (h2 : q ≤ 3) (h3 : 2 ≤ a) (h4 : a ≤ 3) (hW : 0 < W) (hc : ∀ j, c j ≤ W) (h0 : ∀ j, ¬ fp_in q a j → c j = 0) : fp_ok (fp_setS S r q a W c) := by
  unfold fp_setS
  by_cases h : W / fp_g W c ≤ 1000000
  · rw [if_pos h]
    refine fp_chg_ok hok hr (Or.inr ⟨h1, h2, h3, h4, ?_, h, fun j => Nat.div_le_div_right (hc j), fun j hj => ?_⟩)
    · show 1 ≤ W / fp_g W c
      exact Nat.div_pos (fp_gg_le hW 81) (fp_gg_pos hW 81)
    · show c j / fp_g W c = 0
      rw [h0 j hj, Nat.zero_div]
  · rw [if_neg h]; exact hok
theorem fp_gg_cg {W : Nat} {c c' : Nat → Nat} : ∀ n, (∀ j, j < n → c j = c' j) → fp_gg W c n = fp_gg W c' n
  | 0, _ => rfl
  | n + 1, h => by rw [fp_gg, fp_gg, fp_gg_cg n (fun j hj => h j (by omega)), h n (by omega)]
theorem fp_lM {n : Nat} (h : n < 2 ^ 63) : lN n ≤ (1000000 : Int64) ↔ n ≤ 1000000 := pk_lLE (b := 1000000) h (by decide)
theorem fp_lq1 {n : Nat} (h : n < 2 ^ 63) : lg_cmp (lN n) (1 : Int64) = 0 ↔ n = 1 := fp_cmp_eq.trans (pk_lEQ (b := 1) h (by decide))
theorem fp_lt1 {n : Nat} (h : n < 2 ^ 63) : 0 < lg_cmp (lN n) (1 : Int64) ↔ 1 < n := fp_cmp_gt.trans (pk_lLT (a := 1) (by decide) h)
section FpLay
variable {L : Nat} {R : Nat → Nat → Option Nat} {I : Nat → Nat → Int32} {J : Nat → Nat → Int64}
theorem c_reduce (hR : fp_RK R) {q a W : Nat} {c : Nat → Nat} (hW : 0 < W) (hW2 : W < 2 ^ 63) (hc : ∀ j, c j ≤ W) (hd : fp_dr I J q a W c) : ∃ J', pm_C mX1_reduce [.ref 40] (fp_m L R I J) = some (.null, fp_m L R I J') ∧ fp_dr I J' q a (W / fp_g W c) (fun j => c j / fp_g W c) := by
  obtain ⟨d0, d1, d2, d3⟩ := hd
  have gpos := fp_gg_pos (c := c) hW
  have gle := fp_gg_le (c := c) hW
  have part1 : pm_C mX1_reduce [.ref 40] (fp_m L R I J) = pm_res mX1_reduce 36 [(0, .ref 40), (1, .long (lN (fp_g W c)))] [] (fp_m L R I J) := by
    rw [e_X1_reduce]
    simp only [gl_40, d2, Option.bind_some]
    have loop := fp_lpx (fun i => pm_res mX1_reduce 7 [(0, .ref 40), (1, .long (lN (fp_gg W c i))), (3, .int (nI i))] [] (fp_m L R I J)) (fun i => fp_gg W c i = 1) (fun i => pm_res mX1_reduce 36 [(0, .ref 40), (1, .long (lN (fp_gg W c i)))] [] (fp_m L R I J)) 81 (fun i hi => by
      have g1 := gpos i
      have g2 := gle i
      have g3 := gpos (i + 1)
      have g4 := gle (i + 1)
      have g5 := hc i
      rw [e_X1_reduce_7, if_neg (fp_ge hi (by decide))]
      by_cases e : fp_gg W c i = 1
      · rw [if_pos ((fp_lq1 (by omega)).mpr e), if_pos e]
      · rw [if_neg (fun q => e ((fp_lq1 (by omega)).mp q)), if_neg e]
        simp only [gr_40_3 hR, Option.bind_some]
        rw [ai_41 hi, Option.bind_some, d3 i hi, zL_n (fp_gg W c i), c_common _ (by omega) (by omega) (by omega), Int.natAbs_natCast, fp_oL', Option.bind_some]
        rw [show Nat.gcd (fp_gg W c i) (c i) = fp_gg W c (i + 1) from rfl, fp_max1 g3 (by omega), nI_1])
    rcases loop with ⟨i, h1, h2, -, h3⟩ | ⟨-, h2⟩
    · refine (show pm_res mX1_reduce 7 [(0, .ref 40), (1, .long (lN W)), (3, .int 0)] [] (fp_m L R I J) = _ from h3).trans ?_
      rw [h2, show fp_g W c = 1 from fp_gg_1 h2 (by omega)]
    · refine (show pm_res mX1_reduce 7 [(0, .ref 40), (1, .long (lN W)), (3, .int 0)] [] (fp_m L R I J) = _ from h2).trans ?_
      rw [e_X1_reduce_7, if_pos (fp_le (Nat.le_refl _) (by decide))]
      rfl
  have g1 : 0 < fp_g W c := gpos 81
  have g2 : fp_g W c ≤ W := gle 81
  rw [part1]
  generalize fp_g W c = g at *
  rw [e_X1_reduce_36]
  by_cases e : g = 1
  · rw [if_neg (fun q => by have := (fp_lt1 (by omega)).mp q; omega)]
    refine ⟨J, rfl, d0, d1, by rw [e, Nat.div_one]; exact d2, fun j hj => by rw [e]; show _ = lN (c j / 1); rw [Nat.div_one]; exact d3 j hj⟩
  · have hz : decide (lN g = 0) = false := decide_eq_false (fun q => absurd ((pk_lEQ (b := 0) (by omega) (by decide)).mp q) (by omega))
    rw [if_pos ((fp_lt1 (n := g) (by omega)).mpr (by omega))]
    simp only [gl_40, d2, Option.bind_some, hz, pl_40, pm_nz]
    rw [pk_lDiv hW2 g1 (by omega)]
    have key := fp_lp0 (fun i => pm_res mX1_reduce 55 [(0, .ref 40), (1, .long (lN g)), (3, .int (nI i))] [] (fp_m L R I (va_up (va_up J 40 (va_up (J 40) 2 (lN (W / g)))) 41 (fun j => if j < i then lN (c j / g) else J 41 j)))) 81 (fun i hi => by
      have g5 := hc i
      rw [e_X1_reduce_55, if_neg (fp_ge hi (by decide))]
      simp only [gr_40_3 hR, Option.bind_some, ai_41 hi, pm_up_same, hz, pm_nz, si_41 hi, bx_uu, nI_1]
      rw [if_neg (Nat.lt_irrefl i), d3 i hi, pk_lDiv (by omega) g1 (by omega), fp_fs (fun j => lN (c j / g)) (J 41) i])
    rw [fp_fs0 (fun j => lN (c j / g)) (J 41), show J 41 = va_up J 40 (va_up (J 40) 2 (lN (W / g))) 41 from (pm_up_other _ _ (by decide)).symm, fp_ups] at key
    refine ⟨_, (show pm_res mX1_reduce 55 [(0, .ref 40), (1, .long (lN g)), (3, .int 0)] [] (fp_m L R I (va_up J 40 (va_up (J 40) 2 (lN (W / g))))) = _ from key).trans (by rw [e_X1_reduce_55, if_pos (fp_le (Nat.le_refl _) (by decide))]), d0, d1, ?_, fun j hj => ?_⟩
    · rw [pm_up_other _ _ (by decide), pm_up_same, pm_up_same]
    · rw [pm_up_same, if_pos hj]
theorem c_settle (hR : fp_RK R) {S : fp_S} (hok : fp_ok S) (hC : fp_CR S I) {r : Nat} (hr : r < 8) {q a W : Nat} {c : Nat → Nat} (hW : 0 < W) (hW2 : W < 2 ^ 63) (hc : ∀ j, c j ≤ W) (hd : fp_dr I J q a W c) : ∃ I1 J1, pm_C mX6_settle [.ref 1, .int (nI r)] (fp_m L R I J) = some (.long (fp_setV W c), fp_m L R I1 J1) ∧ fp_CR (fp_setS S r q a W c) I1 ∧ ∀ i, i = 0 ∨ 45 ≤ i → I1 i = I i := by
  obtain ⟨J1, e1, e2⟩ := c_reduce (L := L) hR hW hW2 hc hd
  have hle := Nat.div_le_self W (fp_g W c)
  unfold fp_setV fp_setS
  rw [e_X6_settle]
  simp only [gr_1_4 hR, Option.bind_some, k_40, cond_true, e1, fp_oV', gl_40, e2.2.2.1, fp_cmp_le]
  by_cases h : W / fp_g W c ≤ 1000000
  · obtain ⟨I2, I3, f1, f2, f3, f4⟩ := c_lay (L := L) hR hok hC hr e2
    refine ⟨I3, J1, ?_, by rw [if_pos h]; exact f3, f4⟩
    rw [if_pos ((fp_lM (n := W / fp_g W c) (by omega)).mpr h), if_pos h]
    simp only [gr_1_4 hR, Option.bind_some, k_1, k_40, cond_true, f1, fp_oR', f2, fp_oV', gl_40, e2.2.2.1]
  · refine ⟨I, J1, ?_, by rw [if_neg h]; exact hC, fun _ _ => rfl⟩
    rw [if_neg (fun q => h ((fp_lM (n := W / fp_g W c) (by omega)).mp q)), if_neg h]
theorem r_lay (hR : fp_RK R) {S : fp_S} (hok : fp_ok S) (hM : fp_MR S I) {r : Nat} (hr : r < 8) {q a W : Nat} {c : Nat → Nat} (hW : 0 < W) (hW2 : W < 2 ^ 63) (hc : ∀ j, c j ≤ W) (h8 : J 45 8 = lN W) (h50 : ∀ j, j < 81 → J 50 j = lN (c j)) : ∃ I1, pm_C mX7_lay [.ref 45, .int (nI r), .int (nI q), .int (nI a)] (fp_m L R I J) = some (.long (fp_setV W c), fp_m L R I1 J) ∧ fp_MR (fp_setS S r q a W c) I1 ∧ ∀ i, i < 45 → I1 i = I i := by
  have gpos := fp_gg_pos (c := c) hW
  have gle := fp_gg_le (c := c) hW
  have key := fp_lp0 (fun i => pm_res mX7_lay 9 [(0, .ref 45), (1, .int (nI r)), (2, .int (nI q)), (3, .int (nI a)), (4, .long (lN (fp_gg W c i))), (6, .int (nI i))] [] (fp_m L R I J)) 81 (fun i hi => by
    have g2 := gle i
    have g5 := hc i
    rw [e_X7_lay_9, if_neg (fp_ge hi (by decide))]
    simp only [gr_45_7 hR, Option.bind_some]
    rw [ai_50 hi, Option.bind_some, h50 i hi, zL_n (c i), r_common _ (by omega) (by omega) (by omega), Int.natAbs_natCast, fp_oL', Option.bind_some, Nat.gcd_comm, nI_1]
    rfl)
  have g1 : 0 < fp_g W c := gpos 81
  have g2 : fp_g W c ≤ W := gle 81
  have hle := Nat.div_le_self W (fp_g W c)
  have hz : decide (lN (fp_g W c) = 0) = false := decide_eq_false (fun q => absurd ((pk_lEQ (b := 0) (by omega) (by decide)).mp q) (by omega))
  have head : pm_C mX7_lay [.ref 45, .int (nI r), .int (nI q), .int (nI a)] (fp_m L R I J) = pm_res mX7_lay 9 [(0, .ref 45), (1, .int (nI r)), (2, .int (nI q)), (3, .int (nI a)), (4, .long (lN (fp_g W c))), (6, .int (nI 81))] [] (fp_m L R I J) := by
    rw [e_X7_lay]
    simp only [gl_45, h8, Option.bind_some]
    exact key
  unfold fp_setV fp_setS
  rw [head, e_X7_lay_9, if_pos (fp_le (Nat.le_refl _) (by decide))]
  simp only [gl_45, h8, Option.bind_some, hz, pm_nz]
  rw [pk_lDiv hW2 g1 (by omega)]
  simp only [fp_cmp_le]
  by_cases h : W / fp_g W c ≤ 1000000
  · obtain ⟨I1, c1, c2, c3, c4⟩ := r_kept (L := L) (J := J) hR hok hM
    obtain ⟨I2, d1, d2⟩ := r_emptied (L := L) (I := I1) (J := J) hR hr q a (W / fp_g W c)
    obtain ⟨I3, p3, e3⟩ := fp_li0 (fun i (I' : Nat → Nat → Int32) => pm_res mX7_lay 76 [(0, .ref 45), (1, .int (nI r)), (4, .long (lN (fp_g W c))), (6, .int (nI i))] [] (fp_m L R I' J)) (fun i I' => fp_rt I1 I' r (q, a, W / fp_g W c, fun j => if j < i then c j / fp_g W c else 0)) 81 (fun i I' hi p => by
      have g5 := hc i
      refine ⟨_, fp_rt_cg (fp_rt_up hr (j := i) (v := c i / fp_g W c) hi p) (fun j hj => congrFun (fp_fs (fun j => c j / fp_g W c) (fun _ => 0) i) j), ?_⟩
      rw [e_X7_lay_76, if_neg (fp_ge hi (by decide))]
      simp only [gr_45_0 hR, gr_45_7 hR, Option.bind_some]
      rw [ai_50 hi, Option.bind_some, h50 i hi, hz]
      simp only [pm_nz, nm_84, na_3, nI_add]
      rw [pk_lDiv (by omega) g1 (by omega), lN_i, si_46 (by omega), Option.bind_some, nI_1]) (s := I2) (fp_rt_cg d2 (fun j _ => (if_neg (Nat.not_lt_zero j)).symm))
    obtain ⟨f1, f2⟩ := c4 r hr _ I3 (fp_rt_cg (c' := fun j => c j / fp_g W c) p3 (fun j hj => if_pos hj))
    refine ⟨I3, ?_, by rw [if_pos h]; exact f1, f2⟩
    rw [if_pos ((fp_lM (n := W / fp_g W c) (by omega)).mpr h), if_pos h, k_45, cond_true, c1, fp_oV']
    simp only [gl_45, h8, Option.bind_some, hz, pm_nz, k_45, cond_true]
    rw [pk_lDiv hW2 g1 (by omega), lN_i, d1, fp_oV', Option.bind_some]
    refine (show pm_res mX7_lay 76 [(0, .ref 45), (1, .int (nI r)), (4, .long (lN (fp_g W c))), (6, .int 0)] [] (fp_m L R I2 J) = _ from e3).trans ?_
    rw [e_X7_lay_76, if_pos (fp_le (Nat.le_refl _) (by decide))]
    simp only [gl_45, h8, Option.bind_some, hz, pm_nz]
    rw [pk_lDiv hW2 g1 (by omega)]
  · refine ⟨I, ?_, by rw [if_neg h]; exact hM, fun _ _ => rfl⟩
    rw [if_neg (fun q => h ((fp_lM (n := W / fp_g W c) (by omega)).mp q)), if_neg h]
end FpLay
