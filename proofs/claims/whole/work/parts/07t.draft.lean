/-! THE DRAFT: start, a sure table added, put into a table; sure on both sides -/
theorem fp_ifc {α : Type} {p q : Prop} [Decidable p] [Decidable q] {x y : α} (h : p ↔ q) : (if p then x else y) = (if q then x else y) := by
  by_cases hp : p
  · rw [if_pos hp, if_pos (h.mp hp)]
  · rw [if_neg hp, if_neg (fun hq => hp (h.mpr hq))]
abbrev fp_hit (q a n j : Nat) : Prop := j < 81 ∧ j / 27 < q ∧ j / 9 % 3 < q ∧ j / 3 % 3 = fp_dg a (n / a ^ q) (j / 27) ∧ j % 3 = fp_dg a (n % a ^ q) (j / 9 % 3)
def fp_ad (q a n v : Nat) (c : Nat → Nat) (j : Nat) : Nat := c j + if fp_hit q a n j then v else 0
def fp_dr (I : Nat → Nat → Int32) (J : Nat → Nat → Int64) (q a W : Nat) (c : Nat → Nat) : Prop := I 40 0 = nI q ∧ I 40 1 = nI a ∧ J 40 2 = lN W ∧ ∀ j, j < 81 → J 41 j = lN (c j)
def fp_aj (q a n v : Nat) (c : Nat → Nat) (g : Nat → Int64) (B j : Nat) : Int64 := if j < 81 then lN (c j + if fp_hit q a n j ∧ j / 9 < B then v else 0) else g j
section FpDraft
variable {L : Nat} {R : Nat → Nat → Option Nat} {I : Nat → Nat → Int32} {J : Nat → Nat → Int64}
theorem c_start (hR : fp_RK R) (q a : Nat) : ∃ I' J', pm_C mX1_start [.ref 40, .int (nI q), .int (nI a)] (fp_m L R I J) = some (.null, fp_m L R I' J') ∧ fp_dr I' J' q a 0 (fun _ => 0) ∧ ∀ i, i ≠ 40 → I' i = I i := by
  rw [e_X1_start]
  simp only [pi_40, pl_40, Option.bind_some, gr_40_3 hR]
  rw [c_fillL (M := fp_m L R _ _) (n := 81) rfl (by decide), fp_oV']
  simp only [Option.bind_some, pm_up_same, bx_uu]
  refine ⟨_, _, rfl, ⟨?_, ?_, ?_, fun j hj => ?_⟩, fun i h1 => ?_⟩
  · simp [va_up]
  · simp [va_up]
  · simp [va_up]; rfl
  · simp [va_up, hj]; rfl
  · simp [va_up, h1]
theorem c_addSure (hR : fp_RK R) {q a W n v : Nat} {c : Nat → Nat} (hq : q ≤ 3) (h1 : 2 ≤ a) (h2 : a ≤ 3) (hn : n < 2 ^ 31) (hv : v < 2 ^ 31) (hd : fp_dr I J q a W c) : ∃ J', pm_C mX1_addSure [.ref 40, .int (nI n), .int (nI v)] (fp_m L R I J) = some (.null, fp_m L R I J') ∧ fp_dr I J' q a (W + v) (fp_ad q a n v c) := by
  obtain ⟨d0, d1, d2, d3⟩ := hd
  have hpw := fp_pw3 h2 hq
  have hpos : 0 < a ^ q := Nat.pow_pos (by omega)
  have hz : decide (nI (a ^ q) = 0) = false := decide_eq_false (nI_ne0 hpos (by omega))
  have hnd := Nat.div_le_self n (a ^ q)
  have hnm := Nat.mod_lt n hpos
  let Jm : Nat → Nat → Nat → Int64 := fun B => va_up J 41 (fp_aj q a n v c (J 41) B)
  have J0 : Jm 0 = J := by
    show va_up J 41 _ = J
    rw [show fp_aj q a n v c (J 41) 0 = J 41 from funext fun j => by
      unfold fp_aj
      by_cases h : j < 81
      · rw [if_pos h, if_neg (by omega), d3 j h]; rfl
      · rw [if_neg h], fp_ups]
  have cell : ∀ B j, j < 81 → Jm B 41 j = lN (c j + if fp_hit q a n j ∧ j / 9 < B then v else 0) := by
    intro B j hj
    show va_up J 41 _ 41 j = _
    rw [pm_up_same]
    unfold fp_aj
    rw [if_pos hj]
  have inner : ∀ x, x < q → pm_res mX1_addSure 21 [(0, .ref 40), (1, .int (nI n)), (2, .int (nI v)), (3, .int (nI (a ^ q))), (4, .int (nI x))] [] (fp_m L R I (Jm (3 * x))) = pm_res mX1_addSure 21 [(0, .ref 40), (1, .int (nI n)), (2, .int (nI v)), (3, .int (nI (a ^ q))), (4, .int (nI (x + 1)))] [] (fp_m L R I (Jm (3 * (x + 1)))) := by
    intro x hx
    have u := fp_dg_lt (n := n / a ^ q) (x := x) h1
    rw [e_X1_addSure_21]
    simp only [gi_40, d0, d1, Option.bind_some]
    rw [if_neg (nI_ge hx (by omega)), hz]
    show (pm_oI _).bind _ = _
    rw [pk_div hn hpos (by omega), c_digit _ (by omega) h1 (by omega) (by omega), fp_oI', Option.bind_some]
    have loop := fp_lp0 (fun y => pm_res mX1_addSure 47 [(0, .ref 40), (1, .int (nI n)), (2, .int (nI v)), (3, .int (nI (a ^ q))), (4, .int (nI x)), (5, .int (nI (fp_dg a (n / a ^ q) x))), (6, .int (nI y))] [] (fp_m L R I (Jm (3 * x + y)))) q (fun y hy => by
      have w := fp_dg_lt (n := n % a ^ q) (x := y) h1
      rw [e_X1_addSure_47]
      simp only [gi_40, d0, d1, Option.bind_some, gr_40_3 hR]
      rw [if_neg (nI_ge hy (by omega)), hz]
      show (pm_oI _).bind _ = _
      rw [fp_rem hn hpos (by omega), c_digit _ (by omega) h1 (by omega) (by omega), fp_oI']
      simp only [Option.bind_some, c_spot, fp_oI']
      generalize hgu : fp_dg a (n / a ^ q) x = u' at *
      generalize hgw : fp_dg a (n % a ^ q) y = w' at *
      have hs : 27 * x + 9 * y + 3 * u' + w' < 81 := by omega
      rw [ai_41 hs, Option.bind_some, si_41 hs, Option.bind_some, cell _ _ hs, nI_l hv, lN_add, nI_1]
      rw [if_neg (by omega)]
      have e : va_up (Jm (3 * x + y)) 41 (va_up (Jm (3 * x + y) 41) (27 * x + 9 * y + 3 * u' + w') (lN (c (27 * x + 9 * y + 3 * u' + w') + 0 + v))) = Jm (3 * x + (y + 1)) := by
        show va_up (va_up J 41 _) 41 (va_up (va_up J 41 _ 41) _ _) = va_up J 41 _
        rw [bx_uu, pm_up_same]
        congr 1
        funext j
        unfold va_up
        by_cases hj : j = 27 * x + 9 * y + 3 * u' + w'
        · rw [if_pos hj]
          subst hj
          unfold fp_aj
          have e1 : (27 * x + 9 * y + 3 * u' + w') / 27 = x := by omega
          have e2 : (27 * x + 9 * y + 3 * u' + w') / 9 % 3 = y := by omega
          rw [if_pos hs, if_pos ⟨⟨hs, by omega, by omega, by rw [e1, hgu]; omega, by rw [e2, hgw]; omega⟩, by omega⟩]
          rfl
        · rw [if_neg hj]
          unfold fp_aj
          by_cases h81 : j < 81
          · rw [if_pos h81, if_pos h81]
            by_cases hh : fp_hit q a n j ∧ j / 9 < 3 * x + y
            · rw [if_pos hh, if_pos ⟨hh.1, by omega⟩]
            · rw [if_neg hh, if_neg]
              rintro ⟨g1, g2⟩
              have g3 : j / 9 = 3 * x + y := by
                apply Classical.byContradiction
                intro g
                exact hh ⟨g1, by omega⟩
              obtain ⟨p1, p2, p3, p4, p5⟩ := g1
              have e1 : j / 27 = x := by omega
              have e2 : j / 9 % 3 = y := by omega
              rw [e1, hgu] at p4
              rw [e2, hgw] at p5
              omega
          · rw [if_neg h81, if_neg h81]
      rw [e])
    refine (show pm_res mX1_addSure 47 [(0, .ref 40), (1, .int (nI n)), (2, .int (nI v)), (3, .int (nI (a ^ q))), (4, .int (nI x)), (5, .int (nI (fp_dg a (n / a ^ q) x))), (6, .int 0)] [] (fp_m L R I (Jm (3 * x))) = _ from loop).trans ?_
    rw [e_X1_addSure_47]
    simp only [gi_40, d0, Option.bind_some]
    rw [if_pos (nI_le (Nat.le_refl _) (by omega)), nI_1]
    have e : Jm (3 * x + q) = Jm (3 * (x + 1)) := by
      show va_up J 41 _ = va_up J 41 _
      congr 1
      funext j
      unfold fp_aj
      by_cases h81 : j < 81
      · rw [if_pos h81, if_pos h81]
        congr 2
        refine fp_ifc ⟨?_, ?_⟩
        · rintro ⟨g1, g2⟩; exact ⟨g1, by omega⟩
        · rintro ⟨g1, g2⟩; exact ⟨g1, by have := g1.2.2.1; omega⟩
      · rw [if_neg h81, if_neg h81]
    rw [e]
  have outer := fp_lp0 (fun x => pm_res mX1_addSure 21 [(0, .ref 40), (1, .int (nI n)), (2, .int (nI v)), (3, .int (nI (a ^ q))), (4, .int (nI x))] [] (fp_m L R I (Jm (3 * x)))) q inner
  rw [e_X1_addSure]
  simp only [gi_40, d0, d1, Option.bind_some, c_power _ _ _ (show q < 2 ^ 31 by omega), fp_oI']
  rw [if_pos (fp_le (by omega) (by omega))]
  rw [Nat.mul_zero, J0] at outer
  rw [show pm_res mX1_addSure 21 [(0, .ref 40), (1, .int (nI n)), (2, .int (nI v)), (3, .int (nI (a ^ q))), (4, .int 0)] [] (fp_m L R I J) = _ from outer, e_X1_addSure_21]
  simp only [gi_40, d0, Option.bind_some, gl_40, pl_40]
  rw [if_pos (nI_le (Nat.le_refl _) (by omega)), show Jm (3 * q) 40 2 = lN W from d2, nI_l hv, lN_add]
  refine ⟨_, rfl, d0, d1, by simp [va_up], fun j hj => ?_⟩
  rw [pm_up_other _ _ (by decide), cell _ _ hj]
  unfold fp_ad
  congr 3
  apply propext
  exact ⟨fun g => g.1, fun g => ⟨g, by have := g.2.1; omega⟩⟩
theorem c_putInto (hR : fp_RK R) {q a W : Nat} {c : Nat → Nat} (hd : fp_dr I J q a W c) {r : Nat} (hr : fp_tb r) : ∃ I', pm_C mX1_putInto [.ref 40, .ref r] (fp_m L R I J) = some (.null, fp_m L R I' J) ∧ fp_at I' r (q, a, W, c) ∧ ∀ i, i ≠ r → i ≠ r + 1 → I' i = I i := by
  have hp := fp_tb_pos hr
  obtain ⟨d0, d1, d2, d3⟩ := hd
  obtain ⟨I1, c1, ⟨c2, c3, c4, c5⟩, c6⟩ := c_restart (L := L) (I := I) (J := J) hR hr q a W
  rw [e_X1_putInto]
  simp only [gi_40, gl_40, d0, d1, d2, Option.bind_some, k_T hr, cond_true, lN_i, c1, fp_oV']
  have key := fp_lp0 (fun i => pm_res mX1_putInto 19 [(0, .ref 40), (1, .ref r), (2, .int (nI i))] [] (fp_m L R (va_up I1 (r + 1) (fun j => if j < i then nI (c j) else I1 (r + 1) j)) J)) 81 (fun i hi => by
    rw [e_X1_putInto_19, if_neg (fp_ge hi (by decide))]
    simp only [gr_T hR hr, gr_40_3 hR, Option.bind_some, ai_41 hi, d3 i hi, lN_i, si_T hr hi, pm_up_same, bx_uu, nI_1]
    rw [fp_fs (fun j => nI (c j)) (I1 (r + 1)) i])
  rw [fp_fs0 (fun j => nI (c j)) (I1 (r + 1)), fp_ups] at key
  rw [show pm_res mX1_putInto 19 [(0, .ref 40), (1, .ref r), (2, .int 0)] [] (fp_m L R I1 J) = _ from key, e_X1_putInto_19, if_pos (fp_le (Nat.le_refl _) (by decide))]
  refine ⟨_, rfl, ⟨?_, ?_, ?_, fun j hj => ?_⟩, fun i g1 g2 => ?_⟩
  · rw [pm_up_other _ _ (by omega)]; exact c2
  · rw [pm_up_other _ _ (by omega)]; exact c3
  · rw [pm_up_other _ _ (by omega)]; exact c4
  · rw [pm_up_same, if_pos hj]
  · rw [pm_up_other _ _ g2]; exact c6 i g1 g2
end FpDraft
