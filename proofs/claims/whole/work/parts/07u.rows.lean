/-! loops with a state; a table's row in the reference; sure -/
theorem fp_li {α σ : Type} (f : Nat → σ → α) (P : Nat → σ → Prop) {a n : Nat} (hn : a ≤ n) (h : ∀ i s, a ≤ i → i < n → P i s → ∃ s', P (i + 1) s' ∧ f i s = f (i + 1) s') {s : σ} (h0 : P a s) : ∃ s', P n s' ∧ f a s = f n s' := by
  induction n with
  | zero =>
    have e : a = 0 := Nat.le_zero.mp hn
    subst e
    exact ⟨s, h0, rfl⟩
  | succ n ih =>
    rcases Nat.lt_or_ge n a with q | q
    · have e : a = n + 1 := by omega
      subst e
      exact ⟨s, h0, rfl⟩
    · obtain ⟨s1, p1, e1⟩ := ih q (fun i s h1 h2 => h i s h1 (by omega))
      obtain ⟨s2, p2, e2⟩ := h n s1 q (by omega) p1
      exact ⟨s2, p2, e1.trans e2⟩
theorem fp_li0 {α σ : Type} (f : Nat → σ → α) (P : Nat → σ → Prop) (n : Nat) (h : ∀ i s, i < n → P i s → ∃ s', P (i + 1) s' ∧ f i s = f (i + 1) s') {s : σ} (h0 : P 0 s) : ∃ s', P n s' ∧ f 0 s = f n s' := fp_li f P (Nat.zero_le n) (fun i s _ h2 => h i s h2) h0
def fp_rt (I0 I : Nat → Nat → Int32) (t : Nat) (T : fp_T) : Prop := (∀ i, i < 672 → I 46 i = if i / 84 = t then fp_rw T (i % 84) else I0 46 i) ∧ ∀ i, i ≠ 46 → I i = I0 i
theorem fp_rt_up {I0 I : Nat → Nat → Int32} {t j v q a w : Nat} {c : Nat → Nat} (ht : t < 8) (hj : j < 81) (h : fp_rt I0 I t (q, a, w, c)) : fp_rt I0 (va_up I 46 (va_up (I 46) (84 * t + 3 + j) (nI v))) t (q, a, w, va_up c j v) := by
  refine ⟨fun i hi => ?_, fun i hi => by rw [pm_up_other _ _ hi]; exact h.2 i hi⟩
  rw [pm_up_same]
  by_cases e2 : i = 84 * t + 3 + j
  · rw [e2, pm_up_same, if_pos (by omega), show (84 * t + 3 + j) % 84 = 3 + j by omega, fp_rw3]
    show _ = nI (va_up c j v j)
    rw [pm_up_same]
  · rw [pm_up_other _ _ e2, h.1 i hi]
    by_cases e : i / 84 = t
    · rw [if_pos e, if_pos e]
      unfold fp_rw
      dsimp only
      by_cases e0 : i % 84 = 0
      · rw [if_pos e0, if_pos e0]
      · rw [if_neg e0, if_neg e0]
        by_cases e1 : i % 84 = 1
        · rw [if_pos e1, if_pos e1]
        · rw [if_neg e1, if_neg e1]
          by_cases e3 : i % 84 = 2
          · rw [if_pos e3, if_pos e3]
          · rw [if_neg e3, if_neg e3, pm_up_other _ _ (by omega)]
    · rw [if_neg e, if_neg e]
theorem fp_rt_cg {I0 I : Nat → Nat → Int32} {t q a w : Nat} {c c' : Nat → Nat} (h : fp_rt I0 I t (q, a, w, c)) (e : ∀ j, j < 81 → c j = c' j) : fp_rt I0 I t (q, a, w, c') := by
  refine ⟨fun i hi => ?_, h.2⟩
  rw [h.1 i hi]
  by_cases e0 : i / 84 = t
  · rw [if_pos e0, if_pos e0]
    unfold fp_rw
    dsimp only
    rw [e (i % 84 - 3) (by omega)]
  · rw [if_neg e0, if_neg e0]
theorem fp_rt_mt {I0 I : Nat → Nat → Int32} {t : Nat} {T : fp_T} (ht : t < 8) (h : fp_rt I0 I t T) : fp_mt I t T := by
  intro o ho
  rw [h.1 _ (by omega), if_pos (by omega), show (84 * t + o) % 84 = o by omega]
theorem fp_rt_rf {I : Nat → Nat → Int32} {t : Nat} {T : fp_T} (h : fp_mt I t T) : fp_rt I I t T := by
  refine ⟨fun i hi => ?_, fun _ _ => rfl⟩
  by_cases e : i / 84 = t
  · rw [if_pos e, ← h (i % 84) (by omega), show 84 * t + i % 84 = i by omega]
  · rw [if_neg e]
theorem fp_at_up {I : Nat → Nat → Int32} {r j v q a w : Nat} {c : Nat → Nat} (h : fp_at I r (q, a, w, c)) : fp_at (va_up I (r + 1) (va_up (I (r + 1)) j (nI v))) r (q, a, w, va_up c j v) := by
  refine ⟨?_, ?_, ?_, fun k hk => ?_⟩
  · rw [pm_up_other _ _ (by omega)]; exact h.1
  · rw [pm_up_other _ _ (by omega)]; exact h.2.1
  · rw [pm_up_other _ _ (by omega)]; exact h.2.2.1
  · rw [pm_up_same]
    show _ = nI (va_up c j v k)
    by_cases e : k = j
    · rw [e, pm_up_same, pm_up_same]
    · rw [pm_up_other _ _ e, pm_up_other _ _ e]; exact h.2.2.2 k hk
theorem fp_at_cg {I : Nat → Nat → Int32} {r q a w : Nat} {c c' : Nat → Nat} (h : fp_at I r (q, a, w, c)) (e : ∀ j, j < 81 → c j = c' j) : fp_at I r (q, a, w, c') := ⟨h.1, h.2.1, h.2.2.1, fun j hj => by
  show _ = nI (c' j)
  rw [← e j hj]; exact h.2.2.2 j hj⟩
theorem fp_dr_cg {I : Nat → Nat → Int32} {J : Nat → Nat → Int64} {q a W : Nat} {c c' : Nat → Nat} (h : fp_dr I J q a W c) (e : ∀ j, j < 81 → c j = c' j) : fp_dr I J q a W c' := ⟨h.1, h.2.1, h.2.2.1, fun j hj => by rw [← e j hj]; exact h.2.2.2 j hj⟩
theorem fp_dr_up {I : Nat → Nat → Int32} {J : Nat → Nat → Int64} {q a W j v : Nat} {c : Nat → Nat} (h : fp_dr I J q a W c) : fp_dr I (va_up J 41 (va_up (J 41) j (lN v))) q a W (va_up c j v) := by
  refine ⟨h.1, h.2.1, ?_, fun k hk => ?_⟩
  · rw [pm_up_other _ _ (by decide)]; exact h.2.2.1
  · rw [pm_up_same]
    by_cases e : k = j
    · rw [e, pm_up_same, pm_up_same]
    · rw [pm_up_other _ _ e, pm_up_other _ _ e]; exact h.2.2.2 k hk
/-! a sure table's cells, row by row -/
def fp_hb (q a n B j : Nat) : Nat := if fp_hit q a n j ∧ j / 9 < B then 1 else 0
theorem fp_hb_0 (q a n j : Nat) : fp_hb q a n 0 j = 0 := if_neg (by omega)
theorem fp_hb_up {q a n x y j : Nat} (hq : q ≤ 3) (h1 : 2 ≤ a) (h2 : a ≤ 3) (hx : x < q) (hy : y < q) (hj : j < 81) : va_up (fp_hb q a n (3 * x + y)) (27 * x + 9 * y + 3 * fp_dg a (n / a ^ q) x + fp_dg a (n % a ^ q) y) 1 j = fp_hb q a n (3 * x + (y + 1)) j := by
  have u := fp_dg_lt (n := n / a ^ q) (x := x) h1
  have w := fp_dg_lt (n := n % a ^ q) (x := y) h1
  generalize hgu : fp_dg a (n / a ^ q) x = u' at *
  generalize hgw : fp_dg a (n % a ^ q) y = w' at *
  unfold va_up fp_hb
  by_cases e : j = 27 * x + 9 * y + 3 * u' + w'
  · have e1 : j / 27 = x := by omega
    have e2 : j / 9 % 3 = y := by omega
    rw [if_pos e, if_pos ⟨⟨hj, by omega, by omega, by rw [e1, hgu]; omega, by rw [e2, hgw]; omega⟩, by omega⟩]
  · rw [if_neg e]
    by_cases hh : fp_hit q a n j ∧ j / 9 < 3 * x + y
    · rw [if_pos hh, if_pos ⟨hh.1, by omega⟩]
    · rw [if_neg hh, if_neg]
      rintro ⟨g1, g2⟩
      have g3 : j / 9 = 3 * x + y := by
        apply Classical.byContradiction
        intro g
        exact hh ⟨g1, by omega⟩
      obtain ⟨p1, p2, p3, p4, p5⟩ := g1
      have e1 : j / 27 = x := by omega
      have e2 : j / 9 % 3 = y := by omega
      rw [e1, hgu] at p4
      rw [e2, hgw] at p5
      omega
theorem fp_hb_row {q a n x j : Nat} (hq : q ≤ 3) : fp_hb q a n (3 * x + q) j = fp_hb q a n (3 * (x + 1)) j := by
  unfold fp_hb
  refine fp_ifc ⟨?_, ?_⟩
  · rintro ⟨g1, g2⟩; exact ⟨g1, by omega⟩
  · rintro ⟨g1, g2⟩; exact ⟨g1, by have := g1.2.2.1; omega⟩
theorem fp_hb_all {q a n j : Nat} : fp_hb q a n (3 * q) j = fp_ad q a n 1 (fun _ => 0) j := by
  unfold fp_hb fp_ad
  rw [Nat.zero_add]
  refine fp_ifc ⟨fun g => g.1, fun g => ⟨g, by have := g.2.1; omega⟩⟩
theorem fp_ad_ok {q a n : Nat} (h1 : 1 ≤ q) (h2 : q ≤ 3) (h3 : 2 ≤ a) (h4 : a ≤ 3) : fp_okT (q, a, 1, fp_ad q a n 1 (fun _ => 0)) := by
  refine Or.inr ⟨h1, h2, h3, h4, Nat.le_refl _, (by show 1 ≤ 1000000; decide), fun j => ?_, fun j hj => ?_⟩
  · show 0 + (if fp_hit q a n j then 1 else 0) ≤ 1
    split <;> omega
  · show fp_ad q a n 1 (fun _ => 0) j = 0
    unfold fp_ad
    rw [if_neg]
    rintro ⟨p1, p2, p3, p4, p5⟩
    exact hj ⟨p1, p2, p3, by rw [p4]; exact fp_dg_lt h3, by rw [p5]; exact fp_dg_lt h3⟩
section FpRows
variable {L : Nat} {R : Nat → Nat → Option Nat} {I : Nat → Nat → Int32} {J : Nat → Nat → Int64}
theorem r_kept (hR : fp_RK R) {S : fp_S} (hok : fp_ok S) (hM : fp_MR S I) : ∃ I1, pm_C mX7_keep [.ref 45] (fp_m L R I J) = some (.null, fp_m L R I1 J) ∧ (∀ i, i ≠ 45 → i ≠ 47 → I1 i = I i) ∧ (∀ k, k ≠ 2 → I1 45 k = I 45 k) ∧ ∀ t, t < 8 → ∀ (T : fp_T) (I2 : Nat → Nat → Int32), fp_rt I1 I2 t T → fp_MR (fp_chg S t T) I2 ∧ ∀ i, i < 45 → I2 i = I i := by
  obtain ⟨I1, c1, c2, c3, c4, c5⟩ := r_keep (L := L) (J := J) hR hok.2.1.1 hM.1 hM.2.1.1 hM.2.1.2
  exact ⟨I1, c1, c4, c3, fun t ht T I2 h => r_chg hok hM ht c2 c3 c4 c5 (fun i hi => by rw [h.1 i hi, c4 46 (by decide) (by decide)]) (fun i a _ => h.2 i a)⟩
theorem c_changed (hR : fp_RK R) {S : fp_S} (hok : fp_ok S) (hC : fp_CR S I) {t : Nat} (ht : t < 8) : ∃ I1, pm_C mX6_changing [.ref 1, .int (nI t)] (fp_m L R I J) = some (.ref (3 + 2 * t), fp_m L R I1 J) ∧ (∀ i, i < 19 ∨ 34 ≤ i → I1 i = I i) ∧ ∀ (T : fp_T) (I2 : Nat → Nat → Int32), fp_at I2 (3 + 2 * t) T → (∀ i, i ≠ 3 + 2 * t → i ≠ 3 + 2 * t + 1 → (i < 40 ∨ 45 ≤ i) → I2 i = I1 i) → fp_CR (fp_chg S t T) I2 ∧ ∀ i, i = 0 ∨ 45 ≤ i → I2 i = I i := by
  obtain ⟨I1, c1, c2, c3⟩ := c_changing (L := L) (J := J) hR ht (hC.1 t ht) hC.2.1 hok.2.1.1
  exact ⟨I1, c1, c3, fun T I2 h1 h2 => c_chg hok hC ht c2 c3 h1 h2⟩
theorem r_emptied (hR : fp_RK R) {t : Nat} (ht : t < 8) (q a w : Nat) : ∃ I', pm_C mX7_empty [.ref 45, .int (nI t), .int (nI q), .int (nI a), .int (nI w)] (fp_m L R I J) = some (.null, fp_m L R I' J) ∧ fp_rt I I' t (q, a, w, fun _ => 0) := by
  obtain ⟨I', c1, c2, c3⟩ := r_empty (L := L) (I := I) (J := J) hR ht q a w
  exact ⟨I', c1, c2, c3⟩
theorem r_laySure (hR : fp_RK R) {t q a n : Nat} (ht : t < 8) (hq : q ≤ 3) (h1 : 2 ≤ a) (h2 : a ≤ 3) (hn : n < 2 ^ 31) : ∃ I', pm_C mX7_laySure [.ref 45, .int (nI t), .int (nI q), .int (nI a), .int (nI n)] (fp_m L R I J) = some (.null, fp_m L R I' J) ∧ fp_rt I I' t (q, a, 1, fp_ad q a n 1 (fun _ => 0)) := by
  obtain ⟨I1, c1, c2⟩ := r_emptied (L := L) (I := I) (J := J) hR ht q a 1
  have inner : ∀ x I', x < q → fp_rt I I' t (q, a, 1, fp_hb q a n (3 * x)) → ∃ I2, fp_rt I I2 t (q, a, 1, fp_hb q a n (3 * (x + 1))) ∧ pm_res mX7_laySure 11 [(0, .ref 45), (1, .int (nI t)), (2, .int (nI q)), (3, .int (nI a)), (4, .int (nI n)), (5, .int (nI x))] [] (fp_m L R I' J) = pm_res mX7_laySure 11 [(0, .ref 45), (1, .int (nI t)), (2, .int (nI q)), (3, .int (nI a)), (4, .int (nI n)), (5, .int (nI (x + 1)))] [] (fp_m L R I2 J) := by
    intro x I' hx p
    obtain ⟨I2, p2, e2⟩ := fp_li0 (fun y (I' : Nat → Nat → Int32) => pm_res mX7_laySure 20 [(0, .ref 45), (1, .int (nI t)), (2, .int (nI q)), (3, .int (nI a)), (4, .int (nI n)), (5, .int (nI x)), (6, .int (nI y))] [] (fp_m L R I' J)) (fun y I' => fp_rt I I' t (q, a, 1, fp_hb q a n (3 * x + y))) q (fun y I' hy p => by
      have u := fp_dg_lt (n := n / a ^ q) (x := x) h1
      have w := fp_dg_lt (n := n % a ^ q) (x := y) h1
      have r0 := r_answer (fp_m L R I' J) (p := 0) (x := x) hq h1 h2 hn (by decide) (by omega)
      have r1 := r_answer (fp_m L R I' J) (p := 1) (x := y) hq h1 h2 hn (by decide) (by omega)
      rw [show fp_an q a n 0 x = fp_dg a (n / a ^ q) x from if_pos rfl] at r0
      rw [show fp_an q a n 1 y = fp_dg a (n % a ^ q) y from if_neg (by decide)] at r1
      refine ⟨_, fp_rt_cg (fp_rt_up ht (j := 27 * x + 9 * y + 3 * fp_dg a (n / a ^ q) x + fp_dg a (n % a ^ q) y) (v := 1) (by omega) p) (fun j hj => fp_hb_up hq h1 h2 hx hy hj), ?_⟩
      rw [e_X7_laySure_20, if_neg (nI_ge hy (by omega))]
      simp only [gr_45_0 hR, Option.bind_some]
      rw [show pm_C mX7_answer [.int (nI q), .int (nI a), .int (nI n), .int 0, .int (nI x)] (fp_m L R I' J) = _ from r0, fp_oI']
      simp only [Option.bind_some]
      rw [show pm_C mX7_answer [.int (nI q), .int (nI a), .int (nI n), .int 1, .int (nI y)] (fp_m L R I' J) = _ from r1, fp_oI']
      simp only [Option.bind_some, r_place, fp_oI', nm_84, na_3, nI_add, na_1]
      rw [si_46 (by omega), Option.bind_some]
      rfl) (s := I') p
    refine ⟨I2, fp_rt_cg p2 (fun j _ => fp_hb_row hq), ?_⟩
    rw [e_X7_laySure_11, if_neg (nI_ge hx (by omega))]
    refine (show pm_res mX7_laySure 20 [(0, .ref 45), (1, .int (nI t)), (2, .int (nI q)), (3, .int (nI a)), (4, .int (nI n)), (5, .int (nI x)), (6, .int 0)] [] (fp_m L R I' J) = _ from e2).trans ?_
    rw [e_X7_laySure_20, if_pos (nI_le (Nat.le_refl _) (by omega)), nI_1]
  obtain ⟨I2, p2, e2⟩ := fp_li0 (fun x (I' : Nat → Nat → Int32) => pm_res mX7_laySure 11 [(0, .ref 45), (1, .int (nI t)), (2, .int (nI q)), (3, .int (nI a)), (4, .int (nI n)), (5, .int (nI x))] [] (fp_m L R I' J)) (fun x I' => fp_rt I I' t (q, a, 1, fp_hb q a n (3 * x))) q inner (s := I1) (fp_rt_cg c2 (fun j _ => (fp_hb_0 q a n j).symm))
  refine ⟨I2, ?_, fp_rt_cg p2 (fun j _ => fp_hb_all)⟩
  rw [e_X7_laySure, k_45, cond_true, show pm_C mX7_empty [.ref 45, .int (nI t), .int (nI q), .int (nI a), .int 1] (fp_m L R I J) = _ from c1, fp_oV', Option.bind_some]
  refine (show pm_res mX7_laySure 11 [(0, .ref 45), (1, .int (nI t)), (2, .int (nI q)), (3, .int (nI a)), (4, .int (nI n)), (5, .int 0)] [] (fp_m L R I1 J) = _ from e2).trans ?_
  rw [e_X7_laySure_11, if_pos (nI_le (Nat.le_refl _) (by omega))]
/-- the class: the draft goes into table t -/
theorem c_lay (hR : fp_RK R) {S : fp_S} (hok : fp_ok S) (hC : fp_CR S I) {t : Nat} (ht : t < 8) {q a W : Nat} {c : Nat → Nat} (hd : fp_dr I J q a W c) : ∃ I1 I2, pm_C mX6_changing [.ref 1, .int (nI t)] (fp_m L R I J) = some (.ref (3 + 2 * t), fp_m L R I1 J) ∧ pm_C mX1_putInto [.ref 40, .ref (3 + 2 * t)] (fp_m L R I1 J) = some (.null, fp_m L R I2 J) ∧ fp_CR (fp_chg S t (q, a, W, c)) I2 ∧ ∀ i, i = 0 ∨ 45 ≤ i → I2 i = I i := by
  obtain ⟨I1, c1, c2, c3⟩ := c_changed (L := L) (J := J) hR hok hC ht
  obtain ⟨I2, d1, d2, d3⟩ := c_putInto (L := L) (I := I1) (J := J) hR (q := q) (a := a) (W := W) (c := c) ⟨by rw [c2 40 (by omega)]; exact hd.1, by rw [c2 40 (by omega)]; exact hd.2.1, hd.2.2.1, hd.2.2.2⟩ (tb_t ht)
  obtain ⟨f1, f2⟩ := c3 _ I2 d2 (fun i h1 h2 _ => d3 i h1 h2)
  exact ⟨I1, I2, c1, d1, f1, f2⟩
theorem c_sureTables (M : pm_M) {q a : Nat} (hq : q ≤ 3) : pm_C mX6_sureTables [.int (nI q), .int (nI a)] M = some (.int (nI (a ^ (2 * q))), M) := by
  rw [e_X6_sureTables, nm_2, c_power _ _ _ (by omega), fp_oI']
  rfl
theorem b_sure (hR : fp_RK R) (t q a n : Int32) : fp_Both L R mX6_sure mX7_sure [.int t, .int q, .int a, .int n] := by
  intro S hok
  by_cases h1 : 0 ≤ t.toInt ∧ t.toInt < 8
  case neg =>
    refine ⟨S, pm_BAD, hok, fp_Cs.same fun I J hC => ?_, fp_Ms.same fun I J hM => ?_⟩
    · rw [e_X6_sure, c_isT0 _ h1, fp_oI']; rfl
    · rw [e_X7_sure, r_isT0 _ h1, fp_oI']; rfl
  obtain ⟨t', ht, rfl⟩ := fp_nat (k := 8) h1.1 h1.2 (by decide)
  by_cases h2 : (1 ≤ q.toInt ∧ q.toInt < 4) ∧ 2 ≤ a.toInt ∧ a.toInt < 4
  case neg =>
    refine ⟨S, pm_BAD, hok, fp_Cs.same fun I J hC => ?_, fp_Ms.same fun I J hM => ?_⟩
    · rw [e_X6_sure, c_isT _ ht, fp_oI']; simp only [Option.bind_some, fp_10, if_false]; rw [c_isShape, fp_oI']; simp only [Option.bind_some, fp_b_0]; rw [if_pos h2]
    · rw [e_X7_sure, r_isT _ ht, fp_oI']; simp only [Option.bind_some, fp_10, if_false]; rw [r_isShape, fp_oI']; simp only [Option.bind_some, fp_b_0]; rw [if_pos h2]
  obtain ⟨q', q1, q2, rfl⟩ := fp_natL (t := q) (j := 1) (k := 3) (by omega) (by omega) (by decide)
  obtain ⟨a', a1, a2, rfl⟩ := fp_natL (t := a) (j := 2) (k := 3) (by omega) (by omega) (by decide)
  have hpw := fp_pw6 a2 q2
  have hpos : 0 < a' ^ (2 * q') := Nat.pow_pos (by omega)
  have eC : ∀ I J, pm_C mX6_sure [.ref 1, .int (nI t'), .int (nI q'), .int (nI a'), .int n] (fp_m L R I J) = if n < 0 then some (.long pm_BAD, fp_m L R I J) else if n < nI (a' ^ (2 * q')) then ((pm_oV (pm_C mX1_start [.ref 40, .int (nI q'), .int (nI a')] (fp_m L R I J))).bind fun m5 => (pm_gR m5 6 4 1).bind fun g6 => bif pm_kd m5 1 g6 then ((pm_oV (pm_C mX1_addSure [.ref g6, .int n, .int 1] m5)).bind fun m7 => (pm_gR m7 6 4 1).bind fun g8 => bif pm_kd m7 6 1 then ((pm_oR (pm_C mX6_changing [.ref 1, .int (nI t')] m7)).bind fun q9 => bif pm_kd q9.2 1 g8 then ((pm_oV (pm_C mX1_putInto [.ref g8, .ref q9.1] q9.2)).bind fun m10 => some (.long 0, m10)) else none) else none) else none) else some (.long pm_BAD, fp_m L R I J) := by
    intro I J
    rw [e_X6_sure, c_isT _ ht, fp_oI']; simp only [Option.bind_some, fp_10, if_false]; rw [c_isShape, fp_b_t h2, fp_oI']
    simp only [Option.bind_some, fp_10, if_false, c_sureTables _ q2, fp_oI', gr_1_4 hR, k_40, cond_true]
  have eM : ∀ I J, pm_C mX7_sure [.ref 45, .int (nI t'), .int (nI q'), .int (nI a'), .int n] (fp_m L R I J) = (pm_oI (pm_C mX7_isIn [.long n.toInt64, .long 0, .long (nI (a' ^ (2 * q') - 1)).toInt64] (fp_m L R I J))).bind fun q4 => if q4.1 = 0 then (some (.long pm_BAD, q4.2)) else (bif pm_kd q4.2 7 45 then ((pm_oV (pm_C mX7_keep [.ref 45] q4.2)).bind fun m5 => bif pm_kd m5 7 45 then ((pm_oV (pm_C mX7_laySure [.ref 45, .int (nI t'), .int (nI q'), .int (nI a'), .int n] m5)).bind fun m6 => some (.long 0, m6)) else none) else none) := by
    intro I J
    rw [e_X7_sure, r_isT _ ht, fp_oI']; simp only [Option.bind_some, fp_10, if_false]; rw [r_isShape, fp_b_t h2, fp_oI']
    simp only [Option.bind_some, fp_10, if_false]
    rw [nm_2, r_power _ _ _ (by omega), fp_oI']
    simp only [Option.bind_some]
    rw [ns_1 (by omega)]
  generalize hP : a' ^ (2 * q') = P at *
  by_cases h3 : 0 ≤ n.toInt ∧ n.toInt < (P : Int)
  case neg =>
    refine ⟨S, pm_BAD, hok, fp_Cs.same fun I J hC => ?_, fp_Ms.same fun I J hM => ?_⟩
    · rw [eC]
      by_cases h4 : n < 0
      · rw [if_pos h4]
      · rw [if_neg h4, if_neg]
        intro h5
        simp only [Int32.lt_iff_toInt_lt] at h4 h5
        rw [nI_toInt (by omega)] at h5
        simp at h4
        exact h3 ⟨h4, h5⟩
    · rw [eM, r_isIn0 _ (fp_isIn0 (n := P - 1) (by rw [fp_w, nI_toInt (by omega)]) (by rw [show ((P - 1 : Nat) : Int) + 1 = P by omega]; exact h3)), fp_oI']
      rfl
  obtain ⟨n', hn, rfl⟩ := fp_nat (k := P) h3.1 h3.2 (by omega)
  refine ⟨fp_chg S t' (q', a', 1, fp_ad q' a' n' 1 (fun _ => 0)), 0, fp_chg_ok hok ht (fp_ad_ok q1 q2 a1 a2), fun I J hC => ?_, fun I J hM => ?_⟩
  · obtain ⟨I1, J1, c1, c2, c3⟩ := c_start (L := L) (I := I) (J := J) hR q' a'
    obtain ⟨J2, d1, d2⟩ := c_addSure (L := L) hR q2 a1 a2 (show n' < 2 ^ 31 by omega) (v := 1) (by decide) c2
    have hC1 : fp_CR S I1 := fp_CR_cong hC hok.2.1.1 (fun i _ h => c3 i (by omega))
    obtain ⟨I3, I4, e1, e2, e3, e4⟩ := c_lay (L := L) hR hok hC1 ht d2
    refine ⟨I4, J2, ?_, e3, fun i hi => by rw [e4 i hi, c3 i (by omega)]⟩
    rw [eC, if_neg (nI_pos (by omega)), if_pos (nI_lt hn (by omega)), c1, fp_oV']
    simp only [Option.bind_some, gr_1_4 hR, k_40, cond_true]
    rw [show pm_C mX1_addSure [.ref 40, .int (nI n'), .int 1] (fp_m L R I1 J1) = _ from d1, fp_oV']
    simp only [Option.bind_some, gr_1_4 hR, k_40, k_1, cond_true, e1, fp_oR', e2, fp_oV']
  · obtain ⟨I1, c1, c2, c3, c4⟩ := r_kept (L := L) (J := J) hR hok hM
    obtain ⟨I2, d1, d2⟩ := r_laySure (L := L) (I := I1) (J := J) hR ht q2 a1 a2 (show n' < 2 ^ 31 by omega)
    obtain ⟨f1, f2⟩ := c4 t' ht _ I2 d2
    refine ⟨I2, J, ?_, f1, f2⟩
    rw [eM, r_isIn1 _ (fp_isIn1 (by omega) (by rw [fp_w, nI_toInt (by omega)]; omega)), fp_oI']
    simp only [Option.bind_some, fp_10, if_false, k_45, cond_true, c1, fp_oV', d1]
end FpRows
