/-! corners -/
def fp_od (k x y : Nat) : Nat := (x * y + k / 4 % 2 * x + k / 2 % 2 * y + k % 2) % 2
theorem fp_od_lt (k x y : Nat) : fp_od k x y < 2 := Nat.mod_lt _ (by decide)
abbrev fp_pa (k j : Nat) : Prop := (j < 81 ∧ j / 27 < 2 ∧ j / 9 % 3 < 2 ∧ j / 3 % 3 < 2 ∧ j % 3 < 2) ∧ (j / 3 % 3 + j % 3) % 2 = fp_od k (j / 27) (j / 9 % 3)
def fp_cb (k B j : Nat) : Nat := if fp_pa k j ∧ 2 * (j / 27) + j / 9 % 3 < B then 1 else 0
def fp_ci (k B j : Nat) : Nat := if fp_pa k j ∧ 8 * (j / 27) + 4 * (j / 9 % 3) + 2 * (j / 3 % 3) + j % 3 < B then 1 else 0
def fp_co (k j : Nat) : Nat := if fp_pa k j then 1 else 0
theorem fp_jd {j : Nat} (h : j < 81) : ∃ x y a b, x < 3 ∧ y < 3 ∧ a < 3 ∧ b < 3 ∧ j = 27 * x + 9 * y + 3 * a + b := ⟨j / 27, j / 9 % 3, j / 3 % 3, j % 3, by omega, by omega, by omega, by omega, by omega⟩
theorem fp_jc {x y a b : Nat} (hy : y < 3) (ha : a < 3) (hb : b < 3) : (27 * x + 9 * y + 3 * a + b) / 27 = x ∧ (27 * x + 9 * y + 3 * a + b) / 9 % 3 = y ∧ (27 * x + 9 * y + 3 * a + b) / 3 % 3 = a ∧ (27 * x + 9 * y + 3 * a + b) % 3 = b ∧ (27 * x + 9 * y + 3 * a + b) / 9 = 3 * x + y := by
  refine ⟨?_, ?_, ?_, ?_, ?_⟩ <;> omega
theorem fp_je {x y a b x' y' a' b' : Nat} (hy : y < 3) (ha : a < 3) (hb : b < 3) (hy' : y' < 3) (ha' : a' < 3) (hb' : b' < 3) : 27 * x + 9 * y + 3 * a + b = 27 * x' + 9 * y' + 3 * a' + b' ↔ x = x' ∧ y = y' ∧ a = a' ∧ b = b' := by
  constructor
  · intro h
    refine ⟨?_, ?_, ?_, ?_⟩ <;> omega
  · rintro ⟨rfl, rfl, rfl, rfl⟩; rfl
theorem fp_cb_0 (k j : Nat) : fp_cb k 0 j = 0 := if_neg (fun q => absurd q.2 (Nat.not_lt_zero _))
theorem fp_ci_0 (k j : Nat) : fp_ci k 0 j = 0 := if_neg (fun q => absurd q.2 (Nat.not_lt_zero _))
theorem fp_cb_row (k x j : Nat) : fp_cb k (2 * x + 2) j = fp_cb k (2 * (x + 1)) j := rfl
theorem fp_cb_all (k j : Nat) : fp_cb k (2 * 2) j = fp_co k j := by
  unfold fp_cb fp_co
  refine fp_ifc ⟨fun g => g.1, fun g => ⟨g, ?_⟩⟩
  have h1 := g.1.2.1
  have h2 := g.1.2.2.1
  clear g
  omega
theorem fp_ci_all (k j : Nat) : fp_ci k 16 j = fp_co k j := by
  unfold fp_ci fp_co
  refine fp_ifc ⟨fun g => g.1, fun g => ⟨g, ?_⟩⟩
  have h1 := g.1.2.1
  have h2 := g.1.2.2.1
  have h3 := g.1.2.2.2.1
  have h4 := g.1.2.2.2.2
  clear g
  omega
theorem fp_pa_at {k x y a b : Nat} (hx : x < 3) (hy : y < 3) (ha : a < 3) (hb : b < 3) : fp_pa k (27 * x + 9 * y + 3 * a + b) ↔ (x < 2 ∧ y < 2 ∧ a < 2 ∧ b < 2) ∧ (a + b) % 2 = fp_od k x y := by
  obtain ⟨e1, e2, e3, e4, -⟩ := fp_jc (x := x) hy ha hb
  unfold fp_pa
  rw [e1, e2, e3, e4]
  constructor
  · rintro ⟨⟨-, h⟩, h2⟩; exact ⟨h, h2⟩
  · rintro ⟨h, h2⟩; exact ⟨⟨by omega, h⟩, h2⟩
theorem fp_cb_at {k n x y a b : Nat} (hx : x < 3) (hy : y < 3) (ha : a < 3) (hb : b < 3) : fp_cb k n (27 * x + 9 * y + 3 * a + b) = if ((x < 2 ∧ y < 2 ∧ a < 2 ∧ b < 2) ∧ (a + b) % 2 = fp_od k x y) ∧ 2 * x + y < n then 1 else 0 := by
  obtain ⟨e1, e2, e3, e4, -⟩ := fp_jc (x := x) hy ha hb
  unfold fp_cb
  refine fp_ifc ?_
  rw [fp_pa_at hx hy ha hb, e1, e2]
theorem fp_ci_at {k n x y a b : Nat} (hx : x < 3) (hy : y < 3) (ha : a < 3) (hb : b < 3) : fp_ci k n (27 * x + 9 * y + 3 * a + b) = if ((x < 2 ∧ y < 2 ∧ a < 2 ∧ b < 2) ∧ (a + b) % 2 = fp_od k x y) ∧ 8 * x + 4 * y + 2 * a + b < n then 1 else 0 := by
  obtain ⟨e1, e2, e3, e4, -⟩ := fp_jc (x := x) hy ha hb
  unfold fp_ci
  refine fp_ifc ?_
  rw [fp_pa_at hx hy ha hb, e1, e2, e3, e4]
theorem fp_co_at0 {k x y a b : Nat} (hx : x < 3) (hy : y < 3) (ha : a < 3) (hb : b < 3) : fp_co k (27 * x + 9 * y + 3 * a + b) = if ((x < 2 ∧ y < 2 ∧ a < 2 ∧ b < 2) ∧ (a + b) % 2 = fp_od k x y) then 1 else 0 := by
  unfold fp_co
  exact fp_ifc (fp_pa_at hx hy ha hb)
theorem fp_cb_up {k x y j : Nat} (hx : x < 2) (hy : y < 2) (hj : j < 81) : va_up (va_up (fp_cb k (2 * x + y)) (27 * x + 9 * y + 3 * 0 + fp_od k x y) 1) (27 * x + 9 * y + 3 * 1 + (1 - fp_od k x y)) 1 j = fp_cb k (2 * x + (y + 1)) j := by
  obtain ⟨X, Y, A, B, hX, hY, hA, hB, rfl⟩ := fp_jd hj
  clear hj
  have ho := fp_od_lt k x y
  rw [fp_cb_at hX hY hA hB]
  unfold va_up
  rw [fp_cb_at hX hY hA hB]
  by_cases e : X = x ∧ Y = y
  · obtain ⟨rfl, rfl⟩ := e
    generalize fp_od k X Y = o at *
    by_cases e1 : A = 1 ∧ B = 1 - o
    · rw [if_pos (by omega), if_pos (by omega)]
    · rw [if_neg (by omega)]
      by_cases e0 : A = 0 ∧ B = o
      · rw [if_pos (by omega), if_pos (by omega)]
      · rw [if_neg (by omega), if_neg (by omega), if_neg (by omega)]
  · have n1 : ¬ 27 * X + 9 * Y + 3 * A + B = 27 * x + 9 * y + 3 * 1 + (1 - fp_od k x y) := fun q => e (by have := (fp_je hY hA hB (show y < 3 by omega) (show 1 < 3 by omega) (show 1 - fp_od k x y < 3 by omega)).mp q; exact ⟨this.1, this.2.1⟩)
    have n0 : ¬ 27 * X + 9 * Y + 3 * A + B = 27 * x + 9 * y + 3 * 0 + fp_od k x y := fun q => e (by have := (fp_je hY hA hB (show y < 3 by omega) (show 0 < 3 by omega) (show fp_od k x y < 3 by omega)).mp q; exact ⟨this.1, this.2.1⟩)
    rw [if_neg n1, if_neg n0]
    refine fp_ifc ⟨fun g => ⟨g.1, by have := g.2; omega⟩, fun g => ⟨g.1, ?_⟩⟩
    have g1 := g.1.1.1
    have g2 := g.1.1.2.1
    have g3 := g.2
    clear n1 n0 g
    omega
theorem fp_ci_up {k i v j : Nat} (hi : i < 16) (hj : j < 81) (hv : v = fp_co k (27 * (i / 8) + 9 * (i / 4 % 2) + 3 * (i / 2 % 2) + i % 2)) : va_up (fp_ci k i) (27 * (i / 8) + 9 * (i / 4 % 2) + 3 * (i / 2 % 2) + i % 2) v j = fp_ci k (i + 1) j := by
  obtain ⟨X, Y, A, B, hX, hY, hA, hB, rfl⟩ := fp_jd hj
  clear hj
  obtain ⟨x, y, a, b, hx, hy, ha, hb, e, e1, e2, e3, e4⟩ : ∃ x y a b, x < 2 ∧ y < 2 ∧ a < 2 ∧ b < 2 ∧ i = 8 * x + 4 * y + 2 * a + b ∧ i / 8 = x ∧ i / 4 % 2 = y ∧ i / 2 % 2 = a ∧ i % 2 = b := ⟨i / 8, i / 4 % 2, i / 2 % 2, i % 2, by omega, by omega, by omega, by omega, by omega, rfl, rfl, rfl, rfl⟩
  rw [e1, e2, e3, e4] at hv ⊢
  rw [fp_co_at0 (by omega) (by omega) (by omega) (by omega)] at hv
  rw [fp_ci_at hX hY hA hB, hv]
  unfold va_up
  rw [fp_ci_at hX hY hA hB]
  clear hv e1 e2 e3 e4
  by_cases g : X = x ∧ Y = y ∧ A = a ∧ B = b
  · obtain ⟨rfl, rfl, rfl, rfl⟩ := g
    rw [if_pos rfl]
    exact fp_ifc ⟨fun g => ⟨g, by clear g; omega⟩, fun g => g.1⟩
  · rw [if_neg (fun q => g ((fp_je hY hA hB (by omega) (by omega) (by omega)).mp q))]
    refine fp_ifc ⟨fun g => ⟨g.1, by have := g.2; clear g; omega⟩, fun g => ⟨g.1, ?_⟩⟩
    have g1 := g.1.1.1
    have g2 := g.1.1.2.1
    have g3 := g.1.1.2.2.1
    have g4 := g.1.1.2.2.2
    have g5 := g.2
    rename_i g0
    clear g
    omega
theorem fp_co_at {k x y a b : Nat} (hx : x < 2) (hy : y < 2) (ha : a < 2) (hb : b < 2) : fp_co k (27 * x + 9 * y + 3 * a + b) = if (a + b) % 2 = fp_od k x y then 1 else 0 := by
  rw [fp_co_at0 (by omega) (by omega) (by omega) (by omega)]
  exact fp_ifc ⟨fun g => g.2, fun g => ⟨⟨hx, hy, ha, hb⟩, g⟩⟩
theorem fp_co_ok (k : Nat) : fp_okT (2, 2, 2, fp_co k) := by
  refine Or.inr ⟨(by show 1 ≤ 2; decide), (by show 2 ≤ 3; decide), (by show 2 ≤ 2; decide), (by show 2 ≤ 3; decide), (by show 1 ≤ 2; decide), (by show 2 ≤ 1000000; decide), fun j => ?_, fun j hj => ?_⟩
  · show fp_co k j ≤ 2
    unfold fp_co
    split <;> omega
  · exact if_neg (fun g => hj g.1)
def fp_cW (k : Nat) : Nat := if k < 16 then 1 else 2
def fp_ct (k : Nat) : Nat → Nat := if k < 16 then fp_ad 2 2 k 1 (fun _ => 0) else fp_co k
theorem fp_ct_ok (k : Nat) : fp_okT (2, 2, fp_cW k, fp_ct k) := by
  unfold fp_cW fp_ct
  by_cases h : k < 16
  · rw [if_pos h, if_pos h]; exact fp_ad_ok (by decide) (by decide) (by decide) (by decide)
  · rw [if_neg h, if_neg h]; exact fp_co_ok k
section FpCorner
variable {L : Nat} {R : Nat → Nat → Option Nat} {I : Nat → Nat → Int32} {J : Nat → Nat → Int64}
theorem fp_od_b {p x y : Nat} (hp : p < 2) (hx : x < 2) : p * x ≤ 1 := Nat.le_trans (Nat.mul_le_mul (show p ≤ 1 by omega) (show x ≤ 1 by omega)) (by decide)
theorem c_startCorner (hR : fp_RK R) {k : Nat} (hk : k < 24) : ∃ I' J', pm_C mX1_startCorner [.ref 40, .int (nI k)] (fp_m L R I J) = some (.null, fp_m L R I' J') ∧ fp_dr I' J' 2 2 (fp_cW k) (fp_ct k) ∧ ∀ i, i ≠ 40 → I' i = I i := by
  obtain ⟨I1, J1, c1, c2, c3⟩ := c_start (L := L) (I := I) (J := J) hR 2 2
  have c1' : pm_C mX1_start [.ref 40, .int 2, .int 2] (fp_m L R I J) = some (.null, fp_m L R I1 J1) := c1
  unfold fp_cW fp_ct
  by_cases h : k < 16
  · obtain ⟨J2, d1, d2⟩ := c_addSure (L := L) hR (by decide) (by decide) (by decide) (show k < 2 ^ 31 by omega) (v := 1) (by decide) c2
    refine ⟨I1, J2, ?_, by rw [if_pos h, if_pos h]; exact d2, c3⟩
    rw [e_X1_startCorner, k_40, cond_true, c1', fp_oV', Option.bind_some, if_neg (fp_ge h (by decide)), k_40, cond_true, show pm_C mX1_addSure [.ref 40, .int (nI k), .int 1] (fp_m L R I1 J1) = _ from d1, fp_oV']
    rfl
  · rw [if_neg h, if_neg h]
    have g0 : fp_dr I1 (va_up J1 40 (va_up (J1 40) 2 2)) 2 2 2 (fun _ => 0) := by
      refine ⟨c2.1, c2.2.1, ?_, fun j hj => ?_⟩
      · rw [pm_up_same, pm_up_same]; rfl
      · rw [pm_up_other _ _ (by decide)]; exact c2.2.2.2 j hj
    have inner : ∀ x J', x < 2 → fp_dr I1 J' 2 2 2 (fp_cb k (2 * x)) → ∃ J2, fp_dr I1 J2 2 2 2 (fp_cb k (2 * (x + 1))) ∧ pm_res mX1_startCorner 28 [(0, .ref 40), (1, .int (nI k)), (2, .int (nI x))] [] (fp_m L R I1 J') = pm_res mX1_startCorner 28 [(0, .ref 40), (1, .int (nI k)), (2, .int (nI (x + 1)))] [] (fp_m L R I1 J2) := by
      intro x J' hx p
      obtain ⟨J2, p2, e2⟩ := fp_li0 (fun y (J' : Nat → Nat → Int64) => pm_res mX1_startCorner 35 [(0, .ref 40), (1, .int (nI k)), (2, .int (nI x)), (3, .int (nI y))] [] (fp_m L R I1 J')) (fun y J' => fp_dr I1 J' 2 2 2 (fp_cb k (2 * x + y))) 2 (fun y J' hy p => by
        have ho := fp_od_lt k x y
        have b1 := fp_od_b (y := 0) hx hy
        have b2 := fp_od_b (y := 0) (show k / 4 % 2 < 2 by omega) hx
        have b3 := fp_od_b (y := 0) (show k / 2 % 2 < 2 by omega) hy
        have r2 := c_digit (fp_m L R I1 J') (n := k) (a := 2) (k := 2) (by omega) (by decide) (by decide) (by decide)
        have r1 := c_digit (fp_m L R I1 J') (n := k) (a := 2) (k := 1) (by omega) (by decide) (by decide) (by decide)
        have r0 := c_digit (fp_m L R I1 J') (n := k) (a := 2) (k := 0) (by omega) (by decide) (by decide) (by decide)
        rw [show fp_dg 2 k 2 = k / 4 % 2 from rfl] at r2
        rw [show fp_dg 2 k 1 = k / 2 % 2 from rfl] at r1
        rw [show fp_dg 2 k 0 = k % 2 by unfold fp_dg; rw [Nat.pow_zero, Nat.div_one]] at r0
        refine ⟨_, fp_dr_cg (fp_dr_up (j := 27 * x + 9 * y + 3 * 1 + (1 - fp_od k x y)) (v := 1) (fp_dr_up (j := 27 * x + 9 * y + 3 * 0 + fp_od k x y) (v := 1) p)) (fun j hj => fp_cb_up hx hy hj), ?_⟩
        rw [e_X1_startCorner_35, if_neg (fp_ge hy (by decide))]
        rw [show pm_C mX6_digit [.int (nI k), .int 2, .int 2] (fp_m L R I1 J') = _ from r2, fp_oI']
        simp only [Option.bind_some]
        rw [show pm_C mX6_digit [.int (nI k), .int 2, .int 1] (fp_m L R I1 J') = _ from r1, fp_oI']
        simp only [Option.bind_some]
        rw [show pm_C mX6_digit [.int (nI k), .int 2, .int 0] (fp_m L R I1 J') = _ from r0, fp_oI']
        simp only [Option.bind_some, pk_mul, nI_add]
        rw [nq_2 (by omega), show (x * y + k / 4 % 2 * x + k / 2 % 2 * y + k % 2) % 2 = fp_od k x y from rfl, show (1 : Int32) - nI (fp_od k x y) = nI (1 - fp_od k x y) from pk_sub (a := 1) (by omega)]
        simp only [gr_40_3 hR, Option.bind_some]
        rw [show pm_C mX6_spot [.int (nI x), .int (nI y), .int 0, .int (nI (fp_od k x y))] (fp_m L R I1 J') = _ from c_spot (fp_m L R I1 J') x y 0 (fp_od k x y), fp_oI']
        simp only [Option.bind_some]
        rw [si_41 (by omega), Option.bind_some]
        simp only [gr_40_3 hR, Option.bind_some]
        rw [show ∀ M, pm_C mX6_spot [.int (nI x), .int (nI y), .int 1, .int (nI (1 - fp_od k x y))] M = _ from fun M => c_spot M x y 1 (1 - fp_od k x y), fp_oI']
        simp only [Option.bind_some]
        rw [si_41 (by omega), Option.bind_some, nI_1]
        rfl) (s := J') p
      refine ⟨J2, fp_dr_cg p2 (fun j _ => fp_cb_row k x j), ?_⟩
      rw [e_X1_startCorner_28, if_neg (fp_ge hx (by decide))]
      refine (show pm_res mX1_startCorner 35 [(0, .ref 40), (1, .int (nI k)), (2, .int (nI x)), (3, .int 0)] [] (fp_m L R I1 J') = _ from e2).trans ?_
      rw [e_X1_startCorner_35, if_pos (fp_le (Nat.le_refl _) (by decide)), nI_1]
    obtain ⟨J2, p2, e2⟩ := fp_li0 (fun x (J' : Nat → Nat → Int64) => pm_res mX1_startCorner 28 [(0, .ref 40), (1, .int (nI k)), (2, .int (nI x))] [] (fp_m L R I1 J')) (fun x J' => fp_dr I1 J' 2 2 2 (fp_cb k (2 * x))) 2 inner (s := va_up J1 40 (va_up (J1 40) 2 2)) (fp_dr_cg g0 (fun j _ => (fp_cb_0 k j).symm))
    refine ⟨I1, J2, ?_, fp_dr_cg p2 (fun j _ => fp_cb_all k j), c3⟩
    rw [e_X1_startCorner, k_40, cond_true, c1', fp_oV', Option.bind_some, if_pos (fp_le (show 16 ≤ k by omega) (by omega)), pl_40, Option.bind_some]
    refine (show pm_res mX1_startCorner 28 [(0, .ref 40), (1, .int (nI k)), (2, .int 0)] [] (fp_m L R I1 (va_up J1 40 (va_up (J1 40) 2 2))) = _ from e2).trans ?_
    rw [e_X1_startCorner_28, if_pos (fp_le (Nat.le_refl _) (by decide))]
theorem r_hasCell (M : pm_M) {k x y a b : Nat} (hk : k < 8) (hx : x < 2) (hy : y < 2) (ha : a < 2) (hb : b < 2) : pm_C mX7_hasCell [.int (nI k), .int (nI x), .int (nI y), .int (nI a), .int (nI b)] M = some (.int (if (a + b) % 2 = fp_od k x y then 1 else 0), M) := by
  have ho := fp_od_lt k x y
  have b1 := fp_od_b (y := 0) hx hy
  have b2 := fp_od_b (y := 0) (show k / 4 % 2 < 2 by omega) hx
  have b3 := fp_od_b (y := 0) (show k / 2 % 2 < 2 by omega) hy
  rw [e_X7_hasCell, nd_4 (by omega), nd_2 (by omega), nq_2 (by omega), nq_2 (by omega), nq_2 (show k < 2 ^ 31 by omega)]
  simp only [pk_mul, nI_add]
  rw [nq_2 (by omega), nq_2 (by omega), show (x * y + k / 4 % 2 * x + k / 2 % 2 * y + k % 2) % 2 = fp_od k x y from rfl]
  by_cases h : (a + b) % 2 = fp_od k x y
  · rw [if_pos (by rw [h]), if_pos h]
  · rw [if_neg (by rw [nI_eq (by omega) (by omega)]; exact h), if_neg h]
theorem fp_od_16 {k x y : Nat} (hk : 16 ≤ k) (hk2 : k < 24) : fp_od (k - 16) x y = fp_od k x y := by
  unfold fp_od
  rw [show (k - 16) / 4 % 2 = k / 4 % 2 by omega, show (k - 16) / 2 % 2 = k / 2 % 2 by omega, show (k - 16) % 2 = k % 2 by omega]
theorem r_cornerLoop (hR : fp_RK R) {t k : Nat} (ht : t < 8) (h1 : 16 ≤ k) (h2 : k < 24) {I0 : Nat → Nat → Int32} (h : fp_rt I0 I t (2, 2, 2, fun _ => 0)) : ∃ I', pm_res mX7_corner 53 [(0, .ref 45), (1, .int (nI t)), (2, .int (nI k)), (3, .int 0)] [] (fp_m L R I J) = some (.long 0, fp_m L R I' J) ∧ fp_rt I0 I' t (2, 2, 2, fp_co k) := by
  obtain ⟨I2, p2, e2⟩ := fp_li0 (fun i (I' : Nat → Nat → Int32) => pm_res mX7_corner 53 [(0, .ref 45), (1, .int (nI t)), (2, .int (nI k)), (3, .int (nI i))] [] (fp_m L R I' J)) (fun i I' => fp_rt I0 I' t (2, 2, 2, fp_ci k i)) 16 (fun i I' hi p => by
    have hh := r_hasCell (fp_m L R I' J) (k := k - 16) (x := i / 8) (y := i / 4 % 2) (a := i / 2 % 2) (b := i % 2) (by omega) (by omega) (by omega) (by omega) (by omega)
    rw [fp_od_16 h1 h2] at hh
    have hv := fp_co_at (k := k) (x := i / 8) (y := i / 4 % 2) (a := i / 2 % 2) (b := i % 2) (by omega) (by omega) (by omega) (by omega)
    refine ⟨_, fp_rt_cg (fp_rt_up ht (j := 27 * (i / 8) + 9 * (i / 4 % 2) + 3 * (i / 2 % 2) + i % 2) (v := fp_co k (27 * (i / 8) + 9 * (i / 4 % 2) + 3 * (i / 2 % 2) + i % 2)) (by omega) p) (fun j hj => fp_ci_up hi hj rfl), ?_⟩
    rw [e_X7_corner_53, if_neg (fp_ge hi (by decide)), nd_8 (by omega), nd_4 (by omega), nd_2 (by omega), nq_2 (by omega), nq_2 (by omega), nq_2 (show i < 2 ^ 31 by omega)]
    simp only [gr_45_0 hR, Option.bind_some, r_place, fp_oI']
    rw [show nI k - (16 : Int32) = nI (k - 16) from pk_sub h1, hh, fp_oI']
    simp only [Option.bind_some, nm_84, na_3, nI_add, na_1]
    rw [hv]
    by_cases g : (i / 2 % 2 + i % 2) % 2 = fp_od k (i / 8) (i / 4 % 2)
    · rw [if_pos g, if_pos g, if_neg (by decide), si_46 (by omega), Option.bind_some]
      rfl
    · rw [if_neg g, if_neg g, if_pos rfl, si_46 (by omega), Option.bind_some]
      rfl) (s := I) (fp_rt_cg h (fun j _ => (fp_ci_0 k j).symm))
  refine ⟨I2, ?_, fp_rt_cg p2 (fun j _ => fp_ci_all k j)⟩
  refine (show pm_res mX7_corner 53 [(0, .ref 45), (1, .int (nI t)), (2, .int (nI k)), (3, .int 0)] [] (fp_m L R I J) = _ from e2).trans ?_
  rw [e_X7_corner_53, if_pos (fp_le (Nat.le_refl _) (by decide))]
theorem b_corner (hR : fp_RK R) (t k : Int32) : fp_Both L R mX6_corner mX7_corner [.int t, .int k] := by
  intro S hok
  by_cases h1 : 0 ≤ t.toInt ∧ t.toInt < 8
  case neg =>
    refine ⟨S, pm_BAD, hok, fp_Cs.same fun I J hC => ?_, fp_Ms.same fun I J hM => ?_⟩
    · rw [e_X6_corner, c_isT0 _ h1, fp_oI']; rfl
    · rw [e_X7_corner, r_isT0 _ h1, fp_oI']; rfl
  obtain ⟨t', ht, rfl⟩ := fp_nat (k := 8) h1.1 h1.2 (by decide)
  by_cases h2 : 0 ≤ k.toInt ∧ k.toInt < 24
  case neg =>
    refine ⟨S, pm_BAD, hok, fp_Cs.same fun I J hC => ?_, fp_Ms.same fun I J hM => ?_⟩
    · rw [e_X6_corner]
      simp only [c_isT _ ht, fp_oI', Option.bind_some, fp_10, if_false]
      by_cases h3 : k < 0
      · rw [if_pos h3]
      · rw [if_neg h3, if_neg]
        intro h4
        simp only [Int32.lt_iff_toInt_lt] at h3 h4
        simp at h3 h4
        omega
    · rw [e_X7_corner]
      simp only [r_isT _ ht, fp_oI', Option.bind_some, fp_10, if_false]
      rw [r_isIn0 _ (fp_isIn0 (n := 23) (by decide) h2), fp_oI']
      rfl
  obtain ⟨k', hk, rfl⟩ := fp_nat (k := 24) h2.1 h2.2 (by decide)
  have hin := fp_isIn1 (w := k') (k := 23) (by omega) (show (k' : Int) ≤ 23 by omega)
  refine ⟨fp_chg S t' (2, 2, fp_cW k', fp_ct k'), 0, fp_chg_ok hok ht (fp_ct_ok k'), fun I J hC => ?_, fun I J hM => ?_⟩
  · obtain ⟨I1, J1, c1, c2, c3⟩ := c_startCorner (L := L) (I := I) (J := J) hR hk
    have hC1 : fp_CR S I1 := fp_CR_cong hC hok.2.1.1 (fun i _ h => c3 i (by omega))
    obtain ⟨I3, I4, e1, e2, e3, e4⟩ := c_lay (L := L) hR hok hC1 ht c2
    refine ⟨I4, J1, ?_, e3, fun i hi => by rw [e4 i hi, c3 i (by omega)]⟩
    rw [e_X6_corner]
    simp only [c_isT _ ht, fp_oI', Option.bind_some, fp_10, if_false]
    rw [if_neg (nI_pos (by omega)), if_pos (fp_ltR hk (by decide))]
    simp only [gr_1_4 hR, Option.bind_some, k_40, cond_true, c1, fp_oV', k_1, e1, fp_oR', e2]
  · obtain ⟨I1, c1, c2, c3, c4⟩ := r_kept (L := L) (J := J) hR hok hM
    rw [e_X7_corner]
    simp only [r_isT _ ht, fp_oI', Option.bind_some, fp_10, if_false, r_isIn1 _ hin, k_45, cond_true, c1, fp_oV']
    by_cases h : k' < 16
    · obtain ⟨I2, d1, d2⟩ := r_laySure (L := L) (I := I1) (J := J) hR ht (q := 2) (a := 2) (by decide) (by decide) (by decide) (show k' < 2 ^ 31 by omega)
      have T0 : (2, 2, fp_cW k', fp_ct k') = ((2, 2, 1, fp_ad 2 2 k' 1 (fun _ => 0)) : fp_T) := by unfold fp_cW fp_ct; rw [if_pos h, if_pos h]
      obtain ⟨f1, f2⟩ := c4 t' ht _ I2 d2
      rw [T0]
      refine ⟨I2, J, ?_, f1, f2⟩
      rw [if_neg (fp_ge h (by decide)), show pm_C mX7_laySure [.ref 45, .int (nI t'), .int 2, .int 2, .int (nI k')] (fp_m L R I1 J) = _ from d1, fp_oV']
      rfl
    · obtain ⟨I2, d1, d2⟩ := r_emptied (L := L) (I := I1) (J := J) hR ht 2 2 2
      obtain ⟨I3, g1, g2⟩ := r_cornerLoop (L := L) (J := J) hR ht (show 16 ≤ k' by omega) hk d2
      have T0 : (2, 2, fp_cW k', fp_ct k') = ((2, 2, 2, fp_co k') : fp_T) := by unfold fp_cW fp_ct; rw [if_neg h, if_neg h]
      obtain ⟨f1, f2⟩ := c4 t' ht _ I3 g2
      rw [T0]
      refine ⟨I3, J, ?_, f1, f2⟩
      rw [if_pos (fp_le (show 16 ≤ k' by omega) (by omega)), show pm_C mX7_empty [.ref 45, .int (nI t'), .int 2, .int 2, .int 2] (fp_m L R I1 J) = _ from d1, fp_oV', Option.bind_some]
      exact g1
end FpCorner
