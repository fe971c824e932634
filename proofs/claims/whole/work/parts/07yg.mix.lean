/-! mixed, makes -/
def fp_mx (q a : Nat) (s : Nat → Nat) (N j : Nat) : Nat := fp_sm (fun n => if fp_hit q a n j then s n else 0) N
theorem fp_sm_le2 {f g : Nat → Nat} (h : ∀ i, f i ≤ g i) : ∀ n, fp_sm f n ≤ fp_sm g n
  | 0 => Nat.le_refl _
  | n + 1 => by
    have h1 := fp_sm_le2 h n
    have h2 := h n
    rw [fp_sm, fp_sm]
    omega
theorem fp_sm_ext {g : Nat → Nat} {P : Nat} (h : ∀ k, P ≤ k → g k = 0) : ∀ {N : Nat}, P ≤ N → fp_sm g P = fp_sm g N := by
  intro N hN
  induction hN with
  | refl => rfl
  | step hk ih => rw [fp_sm, ← ih, h _ hk, Nat.add_zero]
theorem fp_mx_le (q a : Nat) (s : Nat → Nat) (N j : Nat) : fp_mx q a s N j ≤ fp_sm s N := fp_sm_le2 (fun n => by split <;> omega) N
theorem fp_hit_in {q a n j : Nat} (h1 : 2 ≤ a) (h : fp_hit q a n j) : fp_in q a j := ⟨h.1, h.2.1, h.2.2.1, by rw [h.2.2.2.1]; exact fp_dg_lt h1, by rw [h.2.2.2.2]; exact fp_dg_lt h1⟩
theorem fp_mx_0 {q a : Nat} {s : Nat → Nat} {N j : Nat} (h1 : 2 ≤ a) (h : ¬ fp_in q a j) : fp_mx q a s N j = 0 := fp_sm_0 (fun k _ => if_neg (fun g => h (fp_hit_in h1 g)))
/-- a sure table added, as far as i says -/
def fp_hq (q a n v i : Nat) (c : Nat → Nat) (j : Nat) : Nat := c j + if fp_hit q a n j ∧ j / 27 * q + j / 9 % 3 < i then v else 0
theorem fp_div_q {q i x y : Nat} (hq : 1 ≤ q) (hq3 : q ≤ 3) (hy : y < q) : (x * q + y = i ↔ x = i / q ∧ y = i % q) := by
  rcases (by omega : q = 1 ∨ q = 2 ∨ q = 3) with rfl | rfl | rfl <;> omega
def fp_hP (q a n i : Nat) : Nat := 27 * (i / q) + 9 * (i % q) + 3 * fp_dg a (n / a ^ q) (i / q) + fp_dg a (n % a ^ q) (i % q)
theorem fp_hq_up {q a n v i : Nat} {c : Nat → Nat} (hq : 1 ≤ q) (hq3 : q ≤ 3) (h1 : 2 ≤ a) (h2 : a ≤ 3) (hi : i < q * q) {j : Nat} (hj : j < 81) : va_up (fp_hq q a n v i c) (fp_hP q a n i) (fp_hq q a n v i c (fp_hP q a n i) + v) j = fp_hq q a n v (i + 1) c j := by
  unfold fp_hP
  have hx : i / q < q := by rcases (by omega : q = 1 ∨ q = 2 ∨ q = 3) with rfl | rfl | rfl <;> omega
  have hy : i % q < q := Nat.mod_lt _ (by omega)
  have hxy : i / q * q + i % q = i := (fp_div_q hq hq3 hy).mpr ⟨rfl, rfl⟩
  have u := fp_dg_lt (n := n / a ^ q) (x := i / q) h1
  have w := fp_dg_lt (n := n % a ^ q) (x := i % q) h1
  generalize hgx : i / q = x at *
  generalize hgy : i % q = y at *
  generalize hgu : fp_dg a (n / a ^ q) x = u' at *
  generalize hgw : fp_dg a (n % a ^ q) y = w' at *
  obtain ⟨e1, e2, e3, e4, -⟩ := fp_jc (x := x) (show y < 3 by omega) (show u' < 3 by omega) (show w' < 3 by omega)
  have hP : 27 * x + 9 * y + 3 * u' + w' < 81 := by omega
  have hit : fp_hit q a n (27 * x + 9 * y + 3 * u' + w') := ⟨hP, by rw [e1]; exact hx, by rw [e2]; exact hy, by rw [e1, e3, hgu], by rw [e2, e4, hgw]⟩
  unfold va_up
  by_cases e : j = 27 * x + 9 * y + 3 * u' + w'
  · rw [if_pos e, e]
    unfold fp_hq
    rw [if_neg (by rw [e1, e2]; omega), if_pos ⟨hit, by rw [e1, e2]; omega⟩]
    omega
  · rw [if_neg e]
    unfold fp_hq
    congr 1
    refine fp_ifc ⟨fun g => ⟨g.1, by omega⟩, fun g => ⟨g.1, ?_⟩⟩
    apply Classical.byContradiction
    intro g2
    obtain ⟨⟨p1, p2, p3, p4, p5⟩, g3⟩ := g
    have g4 : j / 27 * q + j / 9 % 3 = i := by omega
    have g5 := (fp_div_q hq hq3 p3).mp g4
    rw [hgx, hgy] at g5
    rw [g5.1, hgu] at p4
    rw [g5.2, hgw] at p5
    apply e
    omega
section FpMix
variable {L : Nat} {R : Nat → Nat → Option Nat} {I : Nat → Nat → Int32} {J : Nat → Nat → Int64}
theorem c_startMix (hR : fp_RK R) {S : fp_S} (hok : fp_ok S) (hC : fp_CR S I) : ∃ I' J', pm_C mX1_startMix [.ref 40, .ref 34, .ref 37] (fp_m L R I J) = some (.null, fp_m L R I' J') ∧ fp_dr I' J' S.2.2.1 S.2.2.2.1 (fp_sm S.2.2.2.2.2 729) (fp_mx S.2.2.1 S.2.2.2.1 S.2.2.2.2.2 729) ∧ ∀ i, i ≠ 40 → I' i = I i := by
  obtain ⟨q1, q2, q3, q4, q5, q6⟩ := hok.2.2.1
  obtain ⟨s1, s2⟩ := hok.2.2.2
  obtain ⟨I1, J1, c1, c2, c3⟩ := c_start (L := L) (I := I) (J := J) hR S.2.2.1 S.2.2.2.1
  obtain ⟨n, num, g1, g2, g3, g4, g5⟩ := hC.2.2.2
  obtain ⟨J2, p2, e2⟩ := fp_li0 (fun i (J' : Nat → Nat → Int64) => pm_res mX1_startMix 14 [(0, .ref 40), (2, .ref 37), (3, .int (nI i))] [] (fp_m L R I1 J')) (fun i J' => fp_dr I1 J' S.2.2.1 S.2.2.2.1 (fp_sm (fun i => S.2.2.2.2.2 (num i)) i) (fun j => fp_sm (fun i => if fp_hit S.2.2.1 S.2.2.2.1 (num i) j then S.2.2.2.2.2 (num i) else 0) i)) n (fun i J' hi p => by
    have b1 := s1 (num i)
    have b2 := (g3 i hi).2.2.2
    obtain ⟨J3, d1, d2⟩ := c_addSure (L := L) hR q2 q3 q4 (n := num i) (v := S.2.2.2.2.2 (num i)) (by omega) (by omega) p
    refine ⟨J3, d2, ?_⟩
    rw [e_X1_startMix_14]
    simp only [gi_37, c3 37 (by decide), g2, Option.bind_some]
    rw [if_neg (nI_ge hi (by omega))]
    simp only [gr_37_0 hR, gr_37_1 hR, Option.bind_some]
    rw [ai_38 (by omega), Option.bind_some, ai_39 (by omega), Option.bind_some, c3 38 (by decide), c3 39 (by decide), (g3 i hi).1, (g3 i hi).2.1, k_40, cond_true, d1, fp_oV', Option.bind_some, nI_1]) (s := J1) c2
  refine ⟨I1, J2, ?_, ?_, c3⟩
  · rw [e_X1_startMix]
    simp only [gi_34, hC.2.2.1.1, hC.2.2.1.2.1, Option.bind_some, k_40, cond_true, c1, fp_oV']
    refine (show pm_res mX1_startMix 14 [(0, .ref 40), (2, .ref 37), (3, .int 0)] [] (fp_m L R I1 J1) = _ from e2).trans ?_
    rw [e_X1_startMix_14]
    simp only [gi_37, c3 37 (by decide), g2, Option.bind_some]
    rw [if_pos (nI_le (Nat.le_refl _) (by omega))]
  · have eW : fp_sm (fun i => S.2.2.2.2.2 (num i)) n = fp_sm S.2.2.2.2.2 729 := (fp_reidx (g := S.2.2.2.2.2) (fun i hi => (g3 i hi).2.2.2) g4 (fun k _ hk => g5 k hk)).symm
    rw [← eW]
    refine fp_dr_cg p2 (fun j _ => ?_)
    exact (fp_reidx (g := fun n => if fp_hit S.2.2.1 S.2.2.2.1 n j then S.2.2.2.2.2 n else 0) (fun i hi => (g3 i hi).2.2.2) g4 (fun k _ hk => g5 k (fun z => hk (by
      show (if _ then _ else _) = 0
      rw [z]
      exact ite_self 0)))).symm
theorem r_beginMade (hR : fp_RK R) : ∃ J', pm_C mX7_beginMade [.ref 45] (fp_m L R I J) = some (.null, fp_m L R I J') ∧ (∀ j, j < 81 → J' 50 j = lN 0) ∧ ∀ i, i ≠ 50 → J' i = J i := by
  have key := fp_lp0 (fun i => pm_res mX7_beginMade 2 [(0, .ref 45), (1, .int (nI i))] [] (fp_m L R I (va_up J 50 (fun j => if j < i then 0 else J 50 j)))) 81 (fun i hi => by
    rw [e_X7_beginMade_2, if_neg (fp_ge hi (by decide))]
    simp only [gr_45_7 hR, Option.bind_some, si_50 hi, pm_up_same, bx_uu, nI_1]
    rw [fp_fs (fun _ => 0) (J 50) i])
  rw [fp_fs0 (fun _ => 0) (J 50), fp_ups] at key
  refine ⟨va_up J 50 (fun j => if j < 81 then 0 else J 50 j), ?_, fun k hk => ?_, fun i hi => pm_up_other _ _ hi⟩
  · rw [e_X7_beginMade, show pm_res mX7_beginMade 2 [(0, .ref 45), (1, .int 0)] [] (fp_m L R I J) = _ from key, e_X7_beginMade_2, if_pos (fp_le (Nat.le_refl _) (by decide))]
  · rw [pm_up_same, if_pos hk]
    rfl
theorem r_mix (hR : fp_RK R) {S : fp_S} (hok : fp_ok S) (hM : fp_MR S I) : ∃ J', pm_C mX7_mix [.ref 45] (fp_m L R I J) = some (.null, fp_m L R I J') ∧ J' 45 8 = lN (fp_sm S.2.2.2.2.2 729) ∧ ∀ j, j < 81 → J' 50 j = lN (fp_mx S.2.2.1 S.2.2.2.1 S.2.2.2.2.2 729 j) := by
  obtain ⟨q1, q2, q3, q4, q5, q6⟩ := hok.2.2.1
  obtain ⟨s1, s2⟩ := hok.2.2.2
  obtain ⟨J1, c1, c2, c3⟩ := r_beginMade (L := L) (I := I) (J := J) hR
  have hpw := fp_pw6 q4 q2
  let Q : (Nat → Nat → Int64) → (Nat → Nat) → Prop := fun J' c => J' 45 8 = lN (fp_sm S.2.2.2.2.2 729) ∧ ∀ j, j < 81 → J' 50 j = lN (c j)
  have hq0 : ¬ nI S.2.2.1 = 0 := nI_ne0 (by omega) (by omega)
  have hqq : S.2.2.1 * S.2.2.1 ≤ 9 := Nat.mul_le_mul q2 q2
  have step : ∀ m (J' : Nat → Nat → Int64), m < S.2.2.2.1 ^ (2 * S.2.2.1) → Q J' (fp_mx S.2.2.1 S.2.2.2.1 S.2.2.2.2.2 m) → ∃ J2, Q J2 (fp_mx S.2.2.1 S.2.2.2.1 S.2.2.2.2.2 (m + 1)) ∧ pm_res mX7_mix 14 [(0, .ref 45), (1, .int (nI m))] [] (fp_m L R I J') = pm_res mX7_mix 14 [(0, .ref 45), (1, .int (nI (m + 1)))] [] (fp_m L R I J2) := by
    intro m J' hm hQ
    have b1 := s1 m
    have head : pm_res mX7_mix 14 [(0, .ref 45), (1, .int (nI m))] [] (fp_m L R I J') = pm_res mX7_mix 24 [(0, .ref 45), (1, .int (nI m)), (2, .int 0)] [] (fp_m L R I J') := by
      rw [e_X7_mix_14, k_45, cond_true, r_sures hM.2.2.1.1 hM.2.2.1.2.1 q2, fp_oI', Option.bind_some]
      dsimp only
      rw [if_neg (nI_ge hm (by omega))]
    by_cases hs : S.2.2.2.2.2 m = 0
    · refine ⟨J', ⟨hQ.1, fun j hj => ?_⟩, ?_⟩
      · rw [hQ.2 j hj]
        unfold fp_mx
        rw [fp_sm, hs, ite_self]
        rfl
      · rw [head, e_X7_mix_24]
        simp only [gi_45, hM.2.2.1.1, Option.bind_some, pk_mul]
        rw [if_neg (nI_nle (Nat.mul_pos (by omega) (by omega)) (by omega))]
        simp only [gr_45_6 hR, Option.bind_some]
        rw [ai_49 (by omega), Option.bind_some, hM.2.2.2 m (by omega), hs, if_pos (by decide), nI_1]
    · obtain ⟨J2, p2, e2⟩ := fp_li0 (fun i (J' : Nat → Nat → Int64) => pm_res mX7_mix 24 [(0, .ref 45), (1, .int (nI m)), (2, .int (nI i))] [] (fp_m L R I J')) (fun i J' => Q J' (fp_hq S.2.2.1 S.2.2.2.1 m (S.2.2.2.2.2 m) i (fp_mx S.2.2.1 S.2.2.2.1 S.2.2.2.2.2 m))) (S.2.2.1 * S.2.2.1) (fun i J' hi hQ => by
        have hx : i / S.2.2.1 < S.2.2.1 := Nat.div_lt_of_lt_mul hi
        have hy : i % S.2.2.1 < S.2.2.1 := Nat.mod_lt _ (by omega)
        have u := fp_dg_lt (n := m / S.2.2.2.1 ^ S.2.2.1) (x := i / S.2.2.1) q3
        have w := fp_dg_lt (n := m % S.2.2.2.1 ^ S.2.2.1) (x := i % S.2.2.1) q3
        have hP : fp_hP S.2.2.1 S.2.2.2.1 m i < 81 := by unfold fp_hP; omega
        have r0 := r_answer (fp_m L R I J') (q := S.2.2.1) (a := S.2.2.2.1) (n := m) (p := 0) (x := i / S.2.2.1) q2 q3 q4 (by omega) (by decide) (by omega)
        have r1 := r_answer (fp_m L R I J') (q := S.2.2.1) (a := S.2.2.2.1) (n := m) (p := 1) (x := i % S.2.2.1) q2 q3 q4 (by omega) (by decide) (by omega)
        rw [show fp_an S.2.2.1 S.2.2.2.1 m 0 (i / S.2.2.1) = fp_dg S.2.2.2.1 (m / S.2.2.2.1 ^ S.2.2.1) (i / S.2.2.1) from if_pos rfl] at r0
        rw [show fp_an S.2.2.1 S.2.2.2.1 m 1 (i % S.2.2.1) = fp_dg S.2.2.2.1 (m % S.2.2.2.1 ^ S.2.2.1) (i % S.2.2.1) from if_neg (by decide)] at r1
        refine ⟨va_up J' 50 (va_up (J' 50) (fp_hP S.2.2.1 S.2.2.2.1 m i) (lN (fp_hq S.2.2.1 S.2.2.2.1 m (S.2.2.2.2.2 m) i (fp_mx S.2.2.1 S.2.2.2.1 S.2.2.2.2.2 m) (fp_hP S.2.2.1 S.2.2.2.1 m i) + S.2.2.2.2.2 m))), ⟨by rw [pm_up_other _ _ (by decide)]; exact hQ.1, fun j hj => ?_⟩, ?_⟩
        · rw [pm_up_same, ← fp_hq_up q1 q2 q3 q4 hi hj]
          by_cases e : j = fp_hP S.2.2.1 S.2.2.2.1 m i
          · rw [e, pm_up_same, pm_up_same]
          · rw [pm_up_other _ _ e, pm_up_other _ _ e]; exact hQ.2 j hj
        · rw [e_X7_mix_24]
          simp only [gi_45, hM.2.2.1.1, hM.2.2.1.2.1, Option.bind_some, pk_mul]
          rw [if_neg (nI_ge hi (by omega))]
          simp only [gr_45_6 hR, gr_45_7 hR, Option.bind_some]
          rw [ai_49 (by omega), Option.bind_some, hM.2.2.2 m (by omega), if_neg (nI_nle (by omega) (by omega)), show decide (nI S.2.2.1 = 0) = false from decide_eq_false hq0]
          simp only [pm_nz]
          rw [pk_div (by omega) (by omega) (by omega), fp_rem (by omega) (by omega) (by omega)]
          rw [show pm_C mX7_answer [.int (nI S.2.2.1), .int (nI S.2.2.2.1), .int (nI m), .int 0, .int (nI (i / S.2.2.1))] (fp_m L R I J') = _ from r0, fp_oI']
          simp only [Option.bind_some, gi_45, hM.2.2.1.1, hM.2.2.1.2.1]
          rw [show pm_C mX7_answer [.int (nI S.2.2.1), .int (nI S.2.2.2.1), .int (nI m), .int 1, .int (nI (i % S.2.2.1))] (fp_m L R I J') = _ from r1, fp_oI']
          simp only [Option.bind_some, r_place, fp_oI']
          rw [show 27 * (i / S.2.2.1) + 9 * (i % S.2.2.1) + 3 * fp_dg S.2.2.2.1 (m / S.2.2.2.1 ^ S.2.2.1) (i / S.2.2.1) + fp_dg S.2.2.2.1 (m % S.2.2.2.1 ^ S.2.2.1) (i % S.2.2.1) = fp_hP S.2.2.1 S.2.2.2.1 m i from rfl, ai_50 hP, Option.bind_some, hQ.2 _ hP]
          simp only [gr_45_6 hR, Option.bind_some]
          rw [ai_49 (by omega), Option.bind_some, hM.2.2.2 m (by omega), nI_l (by omega), lN_add, si_50 hP, Option.bind_some, nI_1]) (s := J') ⟨hQ.1, fun j hj => by
            rw [hQ.2 j hj]
            unfold fp_hq
            rw [if_neg (by omega), Nat.add_zero]⟩
      refine ⟨J2, ⟨p2.1, fun j hj => ?_⟩, ?_⟩
      · rw [p2.2 j hj]
        unfold fp_hq fp_mx
        rw [fp_sm]
        congr 2
        refine fp_ifc ⟨fun g => g.1, fun g => ⟨g, ?_⟩⟩
        have g1 := g.2.1
        have g2 := g.2.2.1
        clear g
        rcases (by omega : S.2.2.1 = 1 ∨ S.2.2.1 = 2 ∨ S.2.2.1 = 3) with e | e | e <;> rw [e] at g1 g2 ⊢ <;> omega
      · rw [head]
        refine (show pm_res mX7_mix 24 [(0, .ref 45), (1, .int (nI m)), (2, .int 0)] [] (fp_m L R I J') = _ from e2).trans ?_
        rw [e_X7_mix_24]
        simp only [gi_45, hM.2.2.1.1, Option.bind_some, pk_mul]
        rw [if_pos (nI_le (Nat.le_refl _) (by omega)), nI_1]
  obtain ⟨J2, p2, e2⟩ := fp_li0 (fun m (J' : Nat → Nat → Int64) => pm_res mX7_mix 14 [(0, .ref 45), (1, .int (nI m))] [] (fp_m L R I J')) (fun m J' => Q J' (fp_mx S.2.2.1 S.2.2.2.1 S.2.2.2.2.2 m)) (S.2.2.2.1 ^ (2 * S.2.2.1)) step (s := va_up J1 45 (va_up (J1 45) 8 (lN (fp_sm S.2.2.2.2.2 729)))) ⟨by rw [pm_up_same, pm_up_same], fun j hj => by rw [pm_up_other _ _ (by decide)]; exact c2 j hj⟩
  refine ⟨J2, ?_, p2.1, fun j hj => ?_⟩
  · rw [e_X7_mix, k_45, cond_true, c1, fp_oV', Option.bind_some, k_45, cond_true, r_all hR hM.2.2.2 s1, fp_oL', Option.bind_some]
    dsimp only
    rw [pl_45, Option.bind_some]
    refine (show pm_res mX7_mix 14 [(0, .ref 45), (1, .int 0)] [] (fp_m L R I (va_up J1 45 (va_up (J1 45) 8 (lN (fp_sm S.2.2.2.2.2 729))))) = _ from e2).trans ?_
    rw [e_X7_mix_14, k_45, cond_true, r_sures hM.2.2.1.1 hM.2.2.1.2.1 q2, fp_oI', Option.bind_some]
    dsimp only
    rw [if_pos (nI_le (Nat.le_refl _) (by omega))]
  · rw [p2.2 j hj]
    unfold fp_mx
    rw [fp_sm_ext (N := 729) (fun k hk => by
      show (if _ then _ else _) = 0
      rw [s2 k hk]
      exact ite_self 0) hpw]
theorem fp_sum_0 {s : Nat → Nat} : ∀ {N : Nat}, fp_sm s N = 0 → ∀ k, k < N → s k = 0
  | 0, _, k, hk => absurd hk (Nat.not_lt_zero k)
  | N + 1, h, k, hk => by
    rw [fp_sm] at h
    rcases (by omega : k < N ∨ k = N) with q | q
    · exact fp_sum_0 (N := N) (by omega) k q
    · rw [q]; omega
theorem fp_none_iff {S : fp_S} (hok : fp_ok S) : fp_sm (fp_nz S.2.2.2.2.2) 729 = 0 ↔ fp_sm S.2.2.2.2.2 729 = 0 := by
  constructor
  · intro h
    refine fp_sm_0 (fun k hk => ?_)
    have := fp_sum_0 h k hk
    unfold fp_nz at this
    apply Classical.byContradiction
    intro q
    rw [if_neg q] at this
    exact absurd this (by decide)
  · intro h
    exact fp_sm_0 (fun k hk => if_pos (fp_sum_0 h k hk))
theorem b_mixed (hR : fp_RK R) (t : Int32) : fp_Both L R mX6_mixed mX7_mixed [.int t] := by
  intro S hok
  obtain ⟨q1, q2, q3, q4, q5, q6⟩ := hok.2.2.1
  obtain ⟨s1, s2⟩ := hok.2.2.2
  by_cases h1 : 0 ≤ t.toInt ∧ t.toInt < 8
  case neg =>
    refine ⟨S, pm_BAD, hok, fp_Cs.same fun I J hC => ?_, fp_Ms.same fun I J hM => ?_⟩
    · rw [e_X6_mixed, c_isT0 _ h1, fp_oI']; rfl
    · rw [e_X7_mixed, r_isT0 _ h1, fp_oI']; rfl
  obtain ⟨t', ht, rfl⟩ := fp_nat (k := 8) h1.1 h1.2 (by decide)
  have hb : fp_sm S.2.2.2.2.2 729 ≤ 729 * 1000000 := fp_sm_le s1 729
  by_cases h0 : fp_sm S.2.2.2.2.2 729 = 0
  · refine ⟨S, pm_NO, hok, fp_Cs.same fun I J hC => ?_, fp_Ms.same fun I J hM => ?_⟩
    · rw [e_X6_mixed]
      simp only [c_isT _ ht, fp_oI', Option.bind_some, fp_10, if_false, gr_1_3 hR, gi_37, (fp_sh_many hC.2.2.2).2, (fp_none_iff hok).mpr h0]
      rfl
    · rw [e_X7_mixed]
      simp only [r_isT _ ht, fp_oI', Option.bind_some, fp_10, if_false, k_45, cond_true, r_all hR hM.2.2.2 s1, fp_oL', h0]
      rfl
  · have h0' : ¬ fp_sm (fp_nz S.2.2.2.2.2) 729 = 0 := fun q => h0 ((fp_none_iff hok).mp q)
    refine ⟨fp_setS S t' S.2.2.1 S.2.2.2.1 (fp_sm S.2.2.2.2.2 729) (fp_mx S.2.2.1 S.2.2.2.1 S.2.2.2.2.2 729), fp_setV (fp_sm S.2.2.2.2.2 729) (fp_mx S.2.2.1 S.2.2.2.1 S.2.2.2.2.2 729), fp_set_ok hok ht q1 q2 q3 q4 (by omega) (fp_mx_le _ _ _ _) (fun j hj => fp_mx_0 q3 hj), fun I J hC => ?_, fun I J hM => ?_⟩
    · have hmany := fp_sh_many hC.2.2.2
      obtain ⟨I1, J1, c1, c2, c3⟩ := c_startMix (L := L) (J := J) hR hok hC
      obtain ⟨I2, J2, d1, d2, d3⟩ := c_settle (L := L) hR hok (fp_CR_cong hC hok.2.1.1 (fun i _ h => c3 i (by omega))) ht (by omega) (by omega) (fp_mx_le _ _ _ _) c2
      refine ⟨I2, J2, ?_, d2, fun i hi => by rw [d3 i hi, c3 i (by omega)]⟩
      rw [e_X6_mixed]
      simp only [c_isT _ ht, fp_oI', Option.bind_some, fp_10, if_false, gr_1_3 hR, gi_37, hmany.2]
      rw [if_neg (fp_ne h0' (by omega) (by decide))]
      simp only [gr_1_4 hR, gr_1_2 hR, Option.bind_some, k_40, k_1, cond_true, c1, fp_oV', d1, fp_oL']
    · obtain ⟨J1, c1, c2, c3⟩ := r_mix (L := L) (J := J) hR hok hM
      obtain ⟨I2, d1, d2, d3⟩ := r_lay (L := L) (J := J1) hR hok hM ht (q := S.2.2.1) (a := S.2.2.2.1) (show 0 < fp_sm S.2.2.2.2.2 729 by omega) (by omega) (fp_mx_le S.2.2.1 S.2.2.2.1 S.2.2.2.2.2 729) c2 c3
      refine ⟨I2, J1, ?_, d2, d3⟩
      rw [e_X7_mixed]
      simp only [r_isT _ ht, fp_oI', Option.bind_some, fp_10, if_false, k_45, cond_true, r_all hR hM.2.2.2 s1, fp_oL', fp_cmp_eq]
      rw [if_neg (show ¬ lN (fp_sm S.2.2.2.2.2 729) = (0 : Int64) from fun q => h0 ((pk_lEQ (b := 0) (by omega) (by decide)).mp q))]
      simp only [c1, fp_oV', Option.bind_some, gi_45, hM.2.2.1.1, hM.2.2.1.2.1, k_45, cond_true, d1, fp_oL']
theorem b_makes (hR : fp_RK R) (t : Int32) : fp_Both L R mX6_makes mX7_makes [.int t] := by
  classical
  intro S hok
  obtain ⟨q1, q2, q3, q4, q5, q6⟩ := hok.2.2.1
  obtain ⟨s1, s2⟩ := hok.2.2.2
  by_cases h1 : 0 ≤ t.toInt ∧ t.toInt < 8
  case neg =>
    refine ⟨S, pm_BAD, hok, fp_Cs.same fun I J hC => ?_, fp_Ms.same fun I J hM => ?_⟩
    · rw [e_X6_makes, c_isT0 _ h1, fp_oI']; rfl
    · rw [e_X7_makes, r_isT0 _ h1, fp_oI']; rfl
  obtain ⟨t', ht, rfl⟩ := fp_nat (k := 8) h1.1 h1.2 (by decide)
  have hT := fp_okT_q (hok.1 t' ht)
  by_cases h4 : fp_fit S (S.1 t')
  case neg =>
    refine ⟨S, pm_NO, hok, fp_Cs.same fun I J hC => ?_, fp_Ms.same fun I J hM => ?_⟩
    · rw [e_X6_makes]
      simp only [c_isT _ ht, fp_oI', Option.bind_some, fp_10, if_false, gr_1_0 hR, gr_1_2 hR, ar_2 hR ht, k_34, cond_true, c_fits hok hC ht, fp_b_f h4, if_true]
    · rw [e_X7_makes]
      simp only [r_isT _ ht, fp_oI', Option.bind_some, fp_10, if_false, k_45, cond_true, r_fits hR hok hM ht, fp_b_f h4, if_true]
  have hb : fp_sm S.2.2.2.2.2 729 ≤ 729 * 1000000 := fp_sm_le s1 729
  by_cases h0 : fp_sm S.2.2.2.2.2 729 = 0
  · refine ⟨S, pm_NO, hok, fp_Cs.same fun I J hC => ?_, fp_Ms.same fun I J hM => ?_⟩
    · rw [e_X6_makes]
      simp only [c_isT _ ht, fp_oI', Option.bind_some, fp_10, if_false, gr_1_0 hR, gr_1_2 hR, ar_2 hR ht, k_34, cond_true, c_fits hok hC ht, fp_b_t h4, gr_1_3 hR, gi_37, (fp_sh_many hC.2.2.2).2, (fp_none_iff hok).mpr h0]
      rfl
    · rw [e_X7_makes]
      simp only [r_isT _ ht, fp_oI', Option.bind_some, fp_10, if_false, k_45, cond_true, r_fits hR hok hM ht, fp_b_t h4, r_all hR hM.2.2.2 s1, fp_oL', h0]
      rfl
  have h0' : ¬ fp_sm (fp_nz S.2.2.2.2.2) 729 = 0 := fun q => h0 ((fp_none_iff hok).mp q)
  let W := fp_sm S.2.2.2.2.2 729
  let c := fp_mx S.2.2.1 S.2.2.2.1 S.2.2.2.2.2 729
  let P : Nat → Option Nat := fun i => if lN (c i * (S.1 t').2.2.1) = lN (W * (S.1 t').2.2.2 i) then none else some i
  have cb : ∀ i, (S.1 t').2.2.2 i < 2 ^ 31 := fun i => Nat.lt_of_le_of_lt (Nat.le_trans (hT.2.2.2 i) hT.2.2.1) (by decide)
  have vlt : ∀ v, fp_f1 P 81 = some v → v < 81 := by
    intro v hv
    obtain ⟨k, hk, hk2⟩ := fp_f1_in hv
    simp only [P] at hk2
    split at hk2
    · cases hk2
    · cases hk2; exact hk
  refine ⟨S, match fp_f1 P 81 with | some v => lN (1 + v) | none => 0, hok, fun I J hC => ?_, fun I J hM => ?_⟩
  · have hmany := fp_sh_many hC.2.2.2
    obtain ⟨I1, J1, c1, ⟨c2, c3, c4, c5⟩, c6⟩ := c_startMix (L := L) (J := J) hR hok hC
    have hat : fp_at I1 (3 + 2 * t') (S.1 t') := fp_at_cong (hC.1 t' ht) (c6 _ (by omega)) (c6 _ (by omega))
    refine ⟨I1, J1, ?_, fp_CR_cong hC hok.2.1.1 (fun i _ h => c6 i (by omega)), fun i hi => c6 i (by omega)⟩
    have loop := fp_lpo (fun i => pm_res mX1_firstOtherChance 2 [(0, .ref 40), (1, .ref (3 + 2 * t')), (2, .int (nI i))] [] (fp_m L R I1 J1)) P (fun i => some (.int (nI i), fp_m L R I1 J1)) (a := 0) (n := 81) (by decide) (fun i hi => absurd hi (Nat.not_lt_zero i)) (fun i _ hi => by
      rw [e_X1_firstOtherChance_2, if_neg (fp_ge hi (by decide))]
      simp only [gr_40_3 hR, Option.bind_some]
      rw [ai_41 hi, Option.bind_some, c5 i hi]
      simp only [gi_T (tb_t ht), hat.2.2.1, gl_40, c4, gr_T hR (tb_t ht), Option.bind_some]
      rw [ai_T (tb_t ht) hi, Option.bind_some, hat.2.2.2 i hi, nI_l (by omega), nI_l (cb i), lN_mul, lN_mul, nI_1]
      simp only [fp_cmp_eq, P]
      by_cases e : lN (c i * (S.1 t').2.2.1) = lN (W * (S.1 t').2.2.2 i)
      · rw [if_pos e, if_pos e]
      · rw [if_neg e, if_neg e])
    have hf : pm_C mX1_firstOtherChance [.ref 40, .ref (3 + 2 * t')] (fp_m L R I1 J1) = match fp_f1 P 81 with | some v => some (.int (nI v), fp_m L R I1 J1) | none => some (.int (-1), fp_m L R I1 J1) := by
      rw [e_X1_firstOtherChance]
      refine (show pm_res mX1_firstOtherChance 2 [(0, .ref 40), (1, .ref (3 + 2 * t')), (2, .int 0)] [] (fp_m L R I1 J1) = _ from loop).trans ?_
      cases fp_f1 P 81 with
      | some v => rfl
      | none =>
        show pm_res mX1_firstOtherChance 2 [(0, .ref 40), (1, .ref (3 + 2 * t')), (2, .int (nI 81))] [] (fp_m L R I1 J1) = _
        rw [e_X1_firstOtherChance_2, if_pos (fp_le (Nat.le_refl _) (by decide))]
    rw [e_X6_makes]
    simp only [c_isT _ ht, fp_oI', Option.bind_some, fp_10, if_false, gr_1_0 hR, gr_1_2 hR, ar_2 hR ht, k_34, cond_true, c_fits hok hC ht, fp_b_t h4, gr_1_3 hR, gi_37, hmany.2]
    rw [if_neg (fp_ne h0' (by omega) (by decide))]
    simp only [gr_1_4 hR, Option.bind_some, k_40, cond_true, c1, fp_oV', hf]
    cases hv : fp_f1 P 81 with
    | some v =>
      have := vlt v hv
      dsimp only
      rw [fp_oI', Option.bind_some]
      dsimp only
      rw [if_pos (nI_pos' (by omega)), show (1 : Int32) + nI v = nI (1 + v) from nI_add 1 v, nI_l (by omega)]
    | none =>
      dsimp only
      rw [fp_oI', Option.bind_some]
      dsimp only
      rw [if_neg (by decide)]
  · obtain ⟨J1, c1, c2, c3⟩ := r_mix (L := L) (J := J) hR hok hM
    refine ⟨I, J1, ?_, hM, fun _ _ => rfl⟩
    have loop := fp_lpo (fun i => pm_res mX7_makes 38 [(0, .ref 45), (1, .int (nI t')), (2, .int (nI i))] [] (fp_m L R I J1)) P (fun i => some (.long (lN (1 + i)), fp_m L R I J1)) (a := 0) (n := 81) (by decide) (fun i hi => absurd hi (Nat.not_lt_zero i)) (fun i _ hi => by
      rw [e_X7_makes_38, if_neg (fp_ge hi (by decide))]
      simp only [gr_45_7 hR, Option.bind_some]
      rw [ai_50 hi, Option.bind_some, c3 i hi]
      simp only [k_45, cond_true, r_whole hR ht (fp_mt_of hM ht), fp_oI', Option.bind_some, gr_45_0 hR, nm_84, na_3, nI_add]
      rw [r_cell hR ht hi (fp_mt_of hM ht), Option.bind_some]
      simp only [gl_45, c2, Option.bind_some]
      rw [nI_l (by omega), nI_l (cb i), lN_mul, lN_mul, nI_1, Nat.mul_comm ((S.1 t').2.2.2 i)]
      simp only [fp_cmp_eq, P]
      by_cases e : lN (c i * (S.1 t').2.2.1) = lN (W * (S.1 t').2.2.2 i)
      · rw [if_pos e, if_pos e]
      · rw [if_neg e, if_neg e, nI_l (by omega), show (1 : Int64) + lN i = lN (1 + i) from lN_add 1 i])
    rw [e_X7_makes]
    simp only [r_isT _ ht, fp_oI', Option.bind_some, fp_10, if_false, k_45, cond_true, r_fits hR hok hM ht, fp_b_t h4, r_all hR hM.2.2.2 s1, fp_oL', fp_cmp_eq]
    rw [if_neg (show ¬ lN (fp_sm S.2.2.2.2.2 729) = (0 : Int64) from fun q => h0 ((pk_lEQ (b := 0) (by omega) (by decide)).mp q))]
    simp only [c1, fp_oV', Option.bind_some]
    refine (show pm_res mX7_makes 38 [(0, .ref 45), (1, .int (nI t')), (2, .int 0)] [] (fp_m L R I J1) = _ from loop).trans ?_
    cases fp_f1 P 81 with
    | some v => rfl
    | none =>
      show pm_res mX7_makes 38 [(0, .ref 45), (1, .int (nI t')), (2, .int (nI 81))] [] (fp_m L R I J1) = _
      rw [e_X7_makes_38, if_pos (fp_le (Nat.le_refl _) (by decide))]
end FpMix
