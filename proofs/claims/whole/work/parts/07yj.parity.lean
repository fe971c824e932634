/-! parity -/
def fp_rb (p : Nat) : Nat := 3 * (p / 2) + p % 2
def fp_py (f g : Nat → Nat) : Nat → (Nat → Nat)
  | 0 => fun _ => 0
  | n + 1 => va_up (fp_py f g n) (fp_rb ((n / 4) ^^^ (n % 4))) (fp_py f g n (fp_rb ((n / 4) ^^^ (n % 4))) + f (fp_rb (n / 4)) * g (fp_rb (n % 4)))
def fp_par (c d : Nat → Nat) (j : Nat) : Nat := if j < 81 then fp_py (fun b => c (9 * (j / 9) + b)) (fun b => d (9 * (j / 9) + b)) 16 (j % 9) else 0
def fp_ps (c d : Nat → Nat) (A n j : Nat) : Nat := if j / 9 < A then fp_par c d j else if j / 9 = A then fp_py (fun b => c (9 * A + b)) (fun b => d (9 * A + b)) n (j % 9) else 0
theorem fp_rb_x : ∀ n, n < 16 → fp_rb ((n / 4) ^^^ (n % 4)) < 9 ∧ fp_rb ((n / 4) ^^^ (n % 4)) / 3 < 2 ∧ fp_rb ((n / 4) ^^^ (n % 4)) % 3 < 2 ∧ 3 * ((n / 8) ^^^ (n / 2 % 2)) + ((n / 4 % 2) ^^^ (n % 2)) = fp_rb ((n / 4) ^^^ (n % 4)) ∧ (n / 8) ^^^ (n / 2 % 2) < 2 ∧ (n / 4 % 2) ^^^ (n % 2) < 2 := by decide
theorem fp_xI : ∀ p, p < 4 → ∀ o, o < 4 → nI p ^^^ nI o = nI (p ^^^ o) := by decide
theorem fp_rb_lt {p : Nat} (h : p < 4) : fp_rb p < 9 := by unfold fp_rb; omega
theorem fp_py_le (f g : Nat → Nat) : ∀ (n r : Nat), fp_py f g n r ≤ fp_sm (fun i => f (fp_rb (i / 4)) * g (fp_rb (i % 4))) n
  | 0, _ => Nat.le_refl _
  | n + 1, r => by
    have h1 := fp_py_le f g n r
    have h2 := fp_py_le f g n (fp_rb ((n / 4) ^^^ (n % 4)))
    rw [fp_py, fp_sm]
    unfold va_up
    split <;> omega
theorem fp_py_0 (f g : Nat → Nat) : ∀ (n r : Nat), n ≤ 16 → (2 ≤ r / 3 ∨ 2 ≤ r % 3) → fp_py f g n r = 0
  | 0, _, _, _ => rfl
  | n + 1, r, hn, hr => by
    have h := fp_rb_x n (by omega)
    rw [fp_py, pm_up_other _ _ (show r ≠ fp_rb ((n / 4) ^^^ (n % 4)) from fun e => by rw [e] at hr; omega)]
    exact fp_py_0 f g n r (by omega) hr
theorem fp_py_sum (f g : Nat → Nat) : fp_sm (fun i => f (fp_rb (i / 4)) * g (fp_rb (i % 4))) 16 = (f 0 + f 1 + f 3 + f 4) * (g 0 + g 1 + g 3 + g 4) := by
  simp [fp_sm, fp_rb, Nat.add_mul, Nat.mul_add]
  omega
theorem fp_py_all {f g : Nat → Nat} {A B : Nat} (hf : fp_sm f 9 ≤ A) (hg : fp_sm g 9 ≤ B) (r : Nat) : fp_py f g 16 r ≤ A * B := by
  refine Nat.le_trans (fp_py_le f g 16 r) ?_
  rw [fp_py_sum]
  refine Nat.mul_le_mul ?_ ?_
  · simp [fp_sm] at hf
    omega
  · simp [fp_sm] at hg
    omega
theorem fp_py_cg {f f' g g' : Nat → Nat} (h : f = f') (h' : g = g') (n r : Nat) : fp_py f g n r = fp_py f' g' n r := by rw [h, h']
theorem fp_par_row {c d : Nat → Nat} {A j : Nat} (h : j / 9 = A) (hj : j < 81) : fp_par c d j = fp_py (fun b => c (9 * A + b)) (fun b => d (9 * A + b)) 16 (j % 9) := by
  unfold fp_par
  rw [if_pos hj, h]
theorem fp_par_le {T U : fp_T} (hT : fp_okT T) (h0 : T.1 ≠ 0) (hp : fp_pr T) (hU : fp_okT U) (h0' : U.1 ≠ 0) (hp' : fp_pr U) (j : Nat) : fp_par T.2.2.2 U.2.2.2 j ≤ T.2.2.1 * U.2.2.1 := by
  unfold fp_par
  by_cases h : j < 81
  · rw [if_pos h]
    exact fp_py_all (fp_row_sum hT h0 hp (by omega)) (fp_row_sum hU h0' hp' (by omega)) _
  · rw [if_neg h]; exact Nat.zero_le _
theorem fp_par_out {T : fp_T} {d : Nat → Nat} (hT : fp_okT T) (h0 : T.1 ≠ 0) {j : Nat} (h : ¬ (j / 27 < T.1 ∧ j / 9 % 3 < T.1)) : fp_par T.2.2.2 d j = 0 := by
  have q8 := (fp_okT_1 hT h0).2.2.2.2.2.2.2
  unfold fp_par
  by_cases h81 : j < 81
  · rw [if_pos h81]
    refine Nat.le_zero.mp (Nat.le_trans (fp_py_le _ _ 16 _) (Nat.le_of_eq (fp_sm_0 (fun i hi => ?_))))
    show T.2.2.2 (9 * (j / 9) + fp_rb (i / 4)) * _ = 0
    have hb := fp_rb_lt (p := i / 4) (by omega)
    rw [q8 _ (fun g2 => h ⟨?_, ?_⟩), Nat.zero_mul]
    · have := g2.2.1
      rw [show (9 * (j / 9) + fp_rb (i / 4)) / 27 = j / 27 by omega] at this
      exact this
    · have := g2.2.2.1
      rw [show (9 * (j / 9) + fp_rb (i / 4)) / 9 % 3 = j / 9 % 3 by omega] at this
      exact this
  · rw [if_neg h81]
theorem fp_par_0 {T : fp_T} {d : Nat → Nat} (hT : fp_okT T) (h0 : T.1 ≠ 0) {j : Nat} (h : ¬ fp_in T.1 2 j) : fp_par T.2.2.2 d j = 0 := by
  by_cases g : j / 27 < T.1 ∧ j / 9 % 3 < T.1
  · unfold fp_par
    by_cases h81 : j < 81
    · rw [if_pos h81]
      refine fp_py_0 _ _ 16 _ (Nat.le_refl _) ?_
      apply Classical.byContradiction
      intro g2
      exact h ⟨h81, g.1, g.2, by omega, by omega⟩
    · rw [if_neg h81]
  · exact fp_par_out hT h0 g
theorem fp_ps_up {c d : Nat → Nat} {A n j : Nat} (hn : n < 16) : va_up (fp_ps c d A n) (9 * A + fp_rb ((n / 4) ^^^ (n % 4))) (fp_ps c d A n (9 * A + fp_rb ((n / 4) ^^^ (n % 4))) + c (9 * A + fp_rb (n / 4)) * d (9 * A + fp_rb (n % 4))) j = fp_ps c d A (n + 1) j := by
  have h := fp_rb_x n hn
  have e1 : (9 * A + fp_rb ((n / 4) ^^^ (n % 4))) / 9 = A := by omega
  have e2 : (9 * A + fp_rb ((n / 4) ^^^ (n % 4))) % 9 = fp_rb ((n / 4) ^^^ (n % 4)) := by omega
  unfold va_up
  by_cases e : j = 9 * A + fp_rb ((n / 4) ^^^ (n % 4))
  · rw [if_pos e, e]
    unfold fp_ps
    rw [e1, e2, if_neg (Nat.lt_irrefl A), if_pos rfl, if_neg (Nat.lt_irrefl A), if_pos rfl, fp_py, pm_up_same]
  · rw [if_neg e]
    unfold fp_ps
    by_cases g : j / 9 < A
    · rw [if_pos g, if_pos g]
    · rw [if_neg g, if_neg g]
      by_cases g2 : j / 9 = A
      · rw [if_pos g2, if_pos g2, fp_py, pm_up_other _ _ (by omega)]
      · rw [if_neg g2, if_neg g2]
theorem fp_ps_row {c d : Nat → Nat} {A j : Nat} (hj : j < 81) : fp_ps c d A 16 j = fp_ps c d (A + 1) 0 j := by
  unfold fp_ps
  by_cases g : j / 9 < A
  · rw [if_pos g, if_pos (by omega)]
  · rw [if_neg g]
    by_cases g2 : j / 9 = A
    · rw [if_pos g2, if_pos (by omega), fp_par_row g2 hj]
    · rw [if_neg g2, if_neg (by omega)]
      split <;> rfl
theorem fp_ps_00 (c d : Nat → Nat) (j : Nat) : fp_ps c d 0 0 j = 0 := by
  unfold fp_ps
  rw [if_neg (Nat.not_lt_zero _)]
  split <;> rfl
theorem fp_ps_gap {c d : Nat → Nat} {A B j : Nat} (hAB : A ≤ B) (h : ∀ j, A ≤ j / 9 → j / 9 < B → fp_par c d j = 0) : fp_ps c d A 0 j = fp_ps c d B 0 j := by
  unfold fp_ps
  by_cases g : j / 9 < A
  · rw [if_pos g, if_pos (by omega)]
  · rw [if_neg g, show (if j / 9 = A then fp_py (fun b => c (9 * A + b)) (fun b => d (9 * A + b)) 0 (j % 9) else 0) = 0 by split <;> rfl]
    by_cases g2 : j / 9 < B
    · rw [if_pos g2, h j (by omega) g2]
    · rw [if_neg g2]
      split <;> rfl
section FpParity
variable {L : Nat} {R : Nat → Nat → Option Nat} {I : Nat → Nat → Int32} {J : Nat → Nat → Int64}
theorem c_rowOfBits (M : pm_M) {p : Nat} (hp : p < 2 ^ 31) : pm_C mX1_rowOfBits [.int (nI p)] M = some (.int (nI (fp_rb p)), M) := by
  rw [e_X1_rowOfBits, nd_2 hp, nq_2 hp, nm_3, nI_add]
  rfl
theorem c_startParity (hR : fp_RK R) {r1 r2 : Nat} (t1 : fp_tb r1) (t2 : fp_tb r2) {T U : fp_T} (hT : fp_at I r1 T) (hU : fp_at I r2 U) (oT : fp_okT T) (oU : fp_okT U) : ∃ I' J', pm_C mX1_startParity [.ref 40, .ref r1, .ref r2] (fp_m L R I J) = some (.null, fp_m L R I' J') ∧ fp_dr I' J' T.1 2 (T.2.2.1 * U.2.2.1) (fp_par T.2.2.2 U.2.2.2) ∧ ∀ i, i ≠ 40 → I' i = I i := by
  have bT := fp_okT_q oT
  have bU := fp_okT_q oU
  have cT : ∀ j, T.2.2.2 j < 2 ^ 31 := fun j => Nat.lt_of_le_of_lt (Nat.le_trans (bT.2.2.2 j) bT.2.2.1) (by decide)
  have cU : ∀ j, U.2.2.2 j < 2 ^ 31 := fun j => Nat.lt_of_le_of_lt (Nat.le_trans (bU.2.2.2 j) bU.2.2.1) (by decide)
  have p1 := fp_tb_pos t1
  have p2 := fp_tb_pos t2
  obtain ⟨I1, J1, c1, c2, c3⟩ := c_start (L := L) (I := I) (J := J) hR T.1 2
  have hT1 : fp_at I1 r1 T := fp_at_cong hT (c3 _ (by omega)) (c3 _ (by omega))
  have hU1 : fp_at I1 r2 U := fp_at_cong hU (c3 _ (by omega)) (c3 _ (by omega))
  have g0 : fp_dr I1 (va_up J1 40 (va_up (J1 40) 2 (lN (T.2.2.1 * U.2.2.1)))) T.1 2 (T.2.2.1 * U.2.2.1) (fun _ => 0) := by
    refine ⟨c2.1, c2.2.1, ?_, fun j hj => ?_⟩
    · rw [pm_up_same, pm_up_same]
    · rw [pm_up_other _ _ (by decide)]; exact c2.2.2.2 j hj
  let D : Nat → Nat → (Nat → Nat → Int64) → Prop := fun A n J' => fp_dr I1 J' T.1 2 (T.2.2.1 * U.2.2.1) (fp_ps T.2.2.2 U.2.2.2 A n)
  have mid : ∀ A p (J' : Nat → Nat → Int64), A < 9 → p < 4 → D A (4 * p) J' → ∃ J2, D A (4 * (p + 1)) J2 ∧ pm_res mX1_startParity 35 [(0, .ref 40), (1, .ref r1), (2, .ref r2), (3, .int (nI A)), (4, .int (nI p))] [] (fp_m L R I1 J') = pm_res mX1_startParity 35 [(0, .ref 40), (1, .ref r1), (2, .ref r2), (3, .int (nI A)), (4, .int (nI (p + 1)))] [] (fp_m L R I1 J2) := by
    intro A p J' hA hp hD
    obtain ⟨J2, q2, e2⟩ := fp_li0 (fun o (J' : Nat → Nat → Int64) => pm_res mX1_startParity 44 [(0, .ref 40), (1, .ref r1), (2, .ref r2), (3, .int (nI A)), (4, .int (nI p)), (5, .int (nI o))] [] (fp_m L R I1 J')) (fun o J' => D A (4 * p + o) J') 4 (fun o J' ho pp => by
      have hn : 4 * p + o < 16 := by omega
      have u := fun j => fp_ps_up (c := T.2.2.2) (d := U.2.2.2) (A := A) (j := j) hn
      have x9 := (fp_rb_x _ hn).1
      rw [show (4 * p + o) / 4 = p by omega, show (4 * p + o) % 4 = o by omega] at u x9
      have b1 := fp_rb_lt hp
      have b2 := fp_rb_lt ho
      have xl : p ^^^ o < 2 ^ 31 := Nat.lt_of_lt_of_le (Nat.xor_lt_two_pow (n := 2) hp ho) (by decide)
      refine ⟨_, fp_dr_cg (fp_dr_up (j := 9 * A + fp_rb (p ^^^ o)) (v := fp_ps T.2.2.2 U.2.2.2 A (4 * p + o) (9 * A + fp_rb (p ^^^ o)) + T.2.2.2 (9 * A + fp_rb p) * U.2.2.2 (9 * A + fp_rb o)) pp) (fun j hj => u j), ?_⟩
      rw [e_X1_startParity_44, if_neg (fp_ge ho (by decide)), fp_xI p hp o ho]
      simp only [gr_40_3 hR, Option.bind_some, c_rowOfBits _ xl, c_rowOfBits _ (show p < 2 ^ 31 by omega), c_rowOfBits _ (show o < 2 ^ 31 by omega), fp_oI', nm_9, nI_add, gr_T hR t1, gr_T hR t2]
      rw [ai_41 (by omega), Option.bind_some, ai_T t1 (by omega), Option.bind_some, ai_T t2 (by omega), Option.bind_some, pp.2.2.2 _ (by omega), hT1.2.2.2 _ (by omega), hU1.2.2.2 _ (by omega), nI_l (cT _), nI_l (cU _), lN_mul, lN_add, si_41 (by omega), Option.bind_some, nI_1]) (s := J') hD
    refine ⟨J2, q2, ?_⟩
    rw [e_X1_startParity_35, if_neg (fp_ge hp (by decide))]
    refine (show pm_res mX1_startParity 44 [(0, .ref 40), (1, .ref r1), (2, .ref r2), (3, .int (nI A)), (4, .int (nI p)), (5, .int 0)] [] (fp_m L R I1 J') = _ from e2).trans ?_
    rw [e_X1_startParity_44, if_pos (fp_le (Nat.le_refl _) (by decide)), nI_1]
  have outer : ∀ A (J' : Nat → Nat → Int64), A < 9 → D A 0 J' → ∃ J2, D (A + 1) 0 J2 ∧ pm_res mX1_startParity 26 [(0, .ref 40), (1, .ref r1), (2, .ref r2), (3, .int (nI A))] [] (fp_m L R I1 J') = pm_res mX1_startParity 26 [(0, .ref 40), (1, .ref r1), (2, .ref r2), (3, .int (nI (A + 1)))] [] (fp_m L R I1 J2) := by
    intro A J' hA hD
    obtain ⟨J2, q2, e2⟩ := fp_li0 (fun p (J' : Nat → Nat → Int64) => pm_res mX1_startParity 35 [(0, .ref 40), (1, .ref r1), (2, .ref r2), (3, .int (nI A)), (4, .int (nI p))] [] (fp_m L R I1 J')) (fun p J' => D A (4 * p) J') 4 (fun p J' hp h => mid A p J' hA hp h) (s := J') hD
    refine ⟨J2, fp_dr_cg q2 (fun j hj => fp_ps_row hj), ?_⟩
    rw [e_X1_startParity_26, if_neg (fp_ge hA (by decide))]
    refine (show pm_res mX1_startParity 35 [(0, .ref 40), (1, .ref r1), (2, .ref r2), (3, .int (nI A)), (4, .int 0)] [] (fp_m L R I1 J') = _ from e2).trans ?_
    rw [e_X1_startParity_35, if_pos (fp_le (Nat.le_refl _) (by decide)), nI_1]
  obtain ⟨J2, q2, e2⟩ := fp_li0 (fun A (J' : Nat → Nat → Int64) => pm_res mX1_startParity 26 [(0, .ref 40), (1, .ref r1), (2, .ref r2), (3, .int (nI A))] [] (fp_m L R I1 J')) (fun A J' => D A 0 J') 9 outer (s := va_up J1 40 (va_up (J1 40) 2 (lN (T.2.2.1 * U.2.2.1)))) (fp_dr_cg g0 (fun j _ => (fp_ps_00 _ _ j).symm))
  refine ⟨I1, J2, ?_, fp_dr_cg q2 (fun j hj => ?_), c3⟩
  · rw [e_X1_startParity]
    simp only [gi_T t1, gi_T t2, hT.1, Option.bind_some, k_40, cond_true]
    rw [show pm_C mX1_start [.ref 40, .int (nI T.1), .int 2] (fp_m L R I J) = _ from c1, fp_oV']
    simp only [Option.bind_some, gi_T t1, gi_T t2, hT1.2.2.1, hU1.2.2.1, pl_40]
    rw [nI_l (by omega), nI_l (by omega), lN_mul]
    refine (show pm_res mX1_startParity 26 [(0, .ref 40), (1, .ref r1), (2, .ref r2), (3, .int 0)] [] (fp_m L R I1 (va_up J1 40 (va_up (J1 40) 2 (lN (T.2.2.1 * U.2.2.1))))) = _ from e2).trans ?_
    rw [e_X1_startParity_26, if_pos (fp_le (Nat.le_refl _) (by decide))]
  · unfold fp_ps
    rw [if_pos (by omega)]
theorem r_parityLoop (hR : fp_RK R) {S : fp_S} (hok : fp_ok S) (hM : fp_MR S I) {t s : Nat} (ht : t < 8) (hs : s < 8) (h0 : (S.1 t).1 ≠ 0) (x3 : Int32) (hJ : ∀ j, j < 81 → J 50 j = lN 0) : ∃ J', pm_res mX7_parity 76 [(0, .ref 45), (1, .int (nI t)), (2, .int (nI s)), (3, .int x3), (4, .int 0)] [] (fp_m L R I J) = pm_res mX7_parity 76 [(0, .ref 45), (1, .int (nI t)), (2, .int (nI s)), (3, .int x3), (4, .int (nI (S.1 t).1))] [] (fp_m L R I J') ∧ ∀ j, j < 81 → J' 50 j = lN (fp_par (S.1 t).2.2.2 (S.1 s).2.2.2 j) := by
  have bT := fp_okT_q (hok.1 t ht)
  have bU := fp_okT_q (hok.1 s hs)
  obtain ⟨q1, q2, q3, q4, q5, q6, q7, q8⟩ := fp_okT_1 (hok.1 t ht) h0
  have cT : ∀ j, (S.1 t).2.2.2 j < 2 ^ 31 := fun j => Nat.lt_of_le_of_lt (Nat.le_trans (bT.2.2.2 j) bT.2.2.1) (by decide)
  have cU : ∀ j, (S.1 s).2.2.2 j < 2 ^ 31 := fun j => Nat.lt_of_le_of_lt (Nat.le_trans (bU.2.2.2 j) bU.2.2.1) (by decide)
  let E : Nat → Nat → (Nat → Nat → Int64) → Prop := fun A n J' => ∀ j, j < 81 → J' 50 j = lN (fp_ps (S.1 t).2.2.2 (S.1 s).2.2.2 A n j)
  have low : ∀ x y (J' : Nat → Nat → Int64), x < (S.1 t).1 → y < (S.1 t).1 → E (3 * x + y) 0 J' → ∃ J2, E (3 * x + (y + 1)) 0 J2 ∧ pm_res mX7_parity 89 [(0, .ref 45), (1, .int (nI t)), (2, .int (nI s)), (3, .int x3), (4, .int (nI x)), (5, .int (nI y))] [] (fp_m L R I J') = pm_res mX7_parity 89 [(0, .ref 45), (1, .int (nI t)), (2, .int (nI s)), (3, .int x3), (4, .int (nI x)), (5, .int (nI (y + 1)))] [] (fp_m L R I J2) := by
    intro x y J' hx hy hE
    obtain ⟨J2, p2, e2⟩ := fp_li0 (fun i (J' : Nat → Nat → Int64) => pm_res mX7_parity 102 [(0, .ref 45), (1, .int (nI t)), (2, .int (nI s)), (3, .int x3), (4, .int (nI x)), (5, .int (nI y)), (6, .int (nI i))] [] (fp_m L R I J')) (fun i J' => E (3 * x + y) i J') 16 (fun i J' hi p => by
      obtain ⟨x9, -, -, xe, xa, xb⟩ := fp_rb_x i hi
      have b1 := fp_rb_lt (p := i / 4) (by omega)
      have b2 := fp_rb_lt (p := i % 4) (by omega)
      have eP : 27 * x + 9 * y + 3 * ((i / 8) ^^^ (i / 2 % 2)) + ((i / 4 % 2) ^^^ (i % 2)) = 9 * (3 * x + y) + fp_rb ((i / 4) ^^^ (i % 4)) := by omega
      have e1 : 27 * x + 9 * y + 3 * (i / 8) + i / 4 % 2 = 9 * (3 * x + y) + fp_rb (i / 4) := by unfold fp_rb; omega
      have e2 : 27 * x + 9 * y + 3 * (i / 2 % 2) + i % 2 = 9 * (3 * x + y) + fp_rb (i % 4) := by unfold fp_rb; omega
      refine ⟨va_up J' 50 (va_up (J' 50) (9 * (3 * x + y) + fp_rb ((i / 4) ^^^ (i % 4))) (lN (fp_ps (S.1 t).2.2.2 (S.1 s).2.2.2 (3 * x + y) i (9 * (3 * x + y) + fp_rb ((i / 4) ^^^ (i % 4))) + (S.1 t).2.2.2 (9 * (3 * x + y) + fp_rb (i / 4)) * (S.1 s).2.2.2 (9 * (3 * x + y) + fp_rb (i % 4))))), fun j hj => ?_, ?_⟩
      · rw [pm_up_same, ← fp_ps_up hi]
        by_cases e : j = 9 * (3 * x + y) + fp_rb ((i / 4) ^^^ (i % 4))
        · rw [e, pm_up_same, pm_up_same]
        · rw [pm_up_other _ _ e, pm_up_other _ _ e]; exact p j hj
      · rw [e_X7_parity_102, if_neg (fp_ge hi (by decide)), nd_8 (by omega), nd_2 (by omega), nd_4 (by omega), nq_2 (show i / 2 < 2 ^ 31 by omega), nq_2 (show i / 4 < 2 ^ 31 by omega), nq_2 (show i < 2 ^ 31 by omega), fp_xI _ (by omega) _ (by omega), fp_xI _ (by omega) _ (by omega)]
        simp only [gr_45_7 hR, Option.bind_some, r_place, fp_oI']
        rw [eP, ai_50 (by omega), Option.bind_some, p _ (by omega)]
        simp only [k_45, cond_true]
        rw [r_get hR ht (by omega) (by omega) (by omega) (by omega) (fp_mt_of hM ht), fp_oI']
        simp only [Option.bind_some, k_45, cond_true]
        rw [r_get hR hs (by omega) (by omega) (by omega) (by omega) (fp_mt_of hM hs), fp_oI']
        simp only [Option.bind_some]
        rw [e1, e2, nI_l (cT _), nI_l (cU _), lN_mul, lN_add, si_50 (by omega), Option.bind_some, nI_1]) (s := J') hE
    refine ⟨J2, fun j hj => by rw [p2 j hj, fp_ps_row hj]; rfl, ?_⟩
    rw [e_X7_parity_89, k_45, cond_true, r_q hR ht (fp_mt_of hM ht), fp_oI', Option.bind_some]
    dsimp only
    rw [if_neg (nI_ge hy (by omega))]
    refine (show pm_res mX7_parity 102 [(0, .ref 45), (1, .int (nI t)), (2, .int (nI s)), (3, .int x3), (4, .int (nI x)), (5, .int (nI y)), (6, .int 0)] [] (fp_m L R I J') = _ from e2).trans ?_
    rw [e_X7_parity_102, if_pos (fp_le (Nat.le_refl _) (by decide)), nI_1]
  have mid : ∀ x (J' : Nat → Nat → Int64), x < (S.1 t).1 → E (3 * x) 0 J' → ∃ J2, E (3 * (x + 1)) 0 J2 ∧ pm_res mX7_parity 76 [(0, .ref 45), (1, .int (nI t)), (2, .int (nI s)), (3, .int x3), (4, .int (nI x))] [] (fp_m L R I J') = pm_res mX7_parity 76 [(0, .ref 45), (1, .int (nI t)), (2, .int (nI s)), (3, .int x3), (4, .int (nI (x + 1)))] [] (fp_m L R I J2) := by
    intro x J' hx hE
    obtain ⟨J2, p2, e2⟩ := fp_li0 (fun y (J' : Nat → Nat → Int64) => pm_res mX7_parity 89 [(0, .ref 45), (1, .int (nI t)), (2, .int (nI s)), (3, .int x3), (4, .int (nI x)), (5, .int (nI y))] [] (fp_m L R I J')) (fun y J' => E (3 * x + y) 0 J') (S.1 t).1 (fun y J' hy h => low x y J' hx hy h) (s := J') hE
    refine ⟨J2, fun j hj => by rw [p2 j hj, fp_ps_gap (B := 3 * (x + 1)) (by omega) (fun j g1 g2 => fp_par_out (hok.1 t ht) h0 (by omega))], ?_⟩
    rw [e_X7_parity_76, k_45, cond_true, r_q hR ht (fp_mt_of hM ht), fp_oI', Option.bind_some]
    dsimp only
    rw [if_neg (nI_ge hx (by omega))]
    refine (show pm_res mX7_parity 89 [(0, .ref 45), (1, .int (nI t)), (2, .int (nI s)), (3, .int x3), (4, .int (nI x)), (5, .int 0)] [] (fp_m L R I J') = _ from e2).trans ?_
    rw [e_X7_parity_89, k_45, cond_true, r_q hR ht (fp_mt_of hM ht), fp_oI', Option.bind_some]
    dsimp only
    rw [if_pos (nI_le (Nat.le_refl _) (by omega)), nI_1]
  obtain ⟨J2, p2, e2⟩ := fp_li0 (fun x (J' : Nat → Nat → Int64) => pm_res mX7_parity 76 [(0, .ref 45), (1, .int (nI t)), (2, .int (nI s)), (3, .int x3), (4, .int (nI x))] [] (fp_m L R I J')) (fun x J' => E (3 * x) 0 J') (S.1 t).1 mid (s := J) (fun j hj => by rw [hJ j hj, fp_ps_00])
  refine ⟨J2, e2, fun j hj => ?_⟩
  rw [p2 j hj, fp_ps_gap (B := 9) (by omega) (fun j g1 g2 => fp_par_out (hok.1 t ht) h0 (by omega))]
  unfold fp_ps
  rw [if_pos (by omega)]
theorem b_parity (hR : fp_RK R) (t s r : Int32) : fp_Both L R mX6_parity mX7_parity [.int t, .int s, .int r] := by
  intro S hok
  by_cases h1 : 0 ≤ t.toInt ∧ t.toInt < 8
  case neg =>
    refine ⟨S, pm_BAD, hok, fp_Cs.same fun I J hC => ?_, fp_Ms.same fun I J hM => ?_⟩
    · rw [e_X6_parity, c_isT0 _ h1, fp_oI']; rfl
    · rw [e_X7_parity, r_isT0 _ h1, fp_oI']; rfl
  obtain ⟨t', ht, rfl⟩ := fp_nat (k := 8) h1.1 h1.2 (by decide)
  by_cases h2 : 0 ≤ s.toInt ∧ s.toInt < 8
  case neg =>
    refine ⟨S, pm_BAD, hok, fp_Cs.same fun I J hC => ?_, fp_Ms.same fun I J hM => ?_⟩
    · rw [e_X6_parity]; simp only [c_isT _ ht, fp_oI', Option.bind_some, fp_10, if_false, c_isT0 _ h2, if_true]
    · rw [e_X7_parity]; simp only [r_isT _ ht, fp_oI', Option.bind_some, fp_10, if_false, r_isT0 _ h2, if_true]
  obtain ⟨s', hs, rfl⟩ := fp_nat (k := 8) h2.1 h2.2 (by decide)
  by_cases h3 : 0 ≤ r.toInt ∧ r.toInt < 8
  case neg =>
    refine ⟨S, pm_BAD, hok, fp_Cs.same fun I J hC => ?_, fp_Ms.same fun I J hM => ?_⟩
    · rw [e_X6_parity]; simp only [c_isT _ ht, c_isT _ hs, fp_oI', Option.bind_some, fp_10, if_false, c_isT0 _ h3, if_true]
    · rw [e_X7_parity]; simp only [r_isT _ ht, r_isT _ hs, fp_oI', Option.bind_some, fp_10, if_false, r_isT0 _ h3, if_true]
  obtain ⟨r', hr, rfl⟩ := fp_nat (k := 8) h3.1 h3.2 (by decide)
  by_cases h4 : fp_pp2 (S.1 t') (S.1 s')
  case neg =>
    refine ⟨S, pm_NO, hok, fp_Cs.same fun I J hC => ?_, fp_Ms.same fun I J hM => ?_⟩
    · rw [e_X6_parity]; simp only [c_isT _ ht, c_isT _ hs, c_isT _ hr, fp_oI', Option.bind_some, fp_10, if_false, k_1, cond_true, (c_areProper (L := L) (J := J) hR hok hC ht hs).2 h4, if_true]
    · rw [e_X7_parity]; simp only [r_isT _ ht, r_isT _ hs, r_isT _ hr, fp_oI', Option.bind_some, fp_10, if_false, k_45, cond_true, (r_areProper (L := L) (J := J) hR hok hM ht hs).2 h4, if_true]
  have bT := fp_okT_1 (hok.1 t' ht) h4.1
  have bU := fp_okT_1 (hok.1 s' hs) h4.2.1
  by_cases h5 : ((S.1 t').1 = (S.1 s').1 ∧ (S.1 t').2.1 = (S.1 s').2.1) ∧ (S.1 t').2.1 = 2
  case neg =>
    refine ⟨S, pm_NO, hok, fp_Cs.same fun I J hC => ?_, fp_Ms.same fun I J hM => ?_⟩
    · rw [e_X6_parity]; simp only [c_isT _ ht, c_isT _ hs, c_isT _ hr, fp_oI', Option.bind_some, fp_10, if_false, k_1, cond_true, (c_areProper (L := L) (J := J) hR hok hC ht hs).1 h4, gr_1_0 hR, ar_2 hR ht, ar_2 hR hs, k_T (tb_t ht), c_hasShape (tb_t ht) (tb_t hs) (hC.1 t' ht) (hC.1 s' hs) (hok.1 t' ht) (hok.1 s' hs), fp_b_0]
      by_cases h6 : (S.1 t').1 = (S.1 s').1 ∧ (S.1 t').2.1 = (S.1 s').2.1
      · rw [if_neg (not_not_intro h6)]
        simp only [gi_T (tb_t ht), (hC.1 t' ht).2.1, Option.bind_some]
        rw [if_neg (fp_ne (fun q => h5 ⟨h6, q⟩) (by omega) (by decide))]
      · rw [if_pos h6]
    · rw [e_X7_parity]; simp only [r_isT _ ht, r_isT _ hs, r_isT _ hr, fp_oI', Option.bind_some, fp_10, if_false, k_45, cond_true, (r_areProper (L := L) (J := J) hR hok hM ht hs).1 h4, r_q hR ht (fp_mt_of hM ht), r_q hR hs (fp_mt_of hM hs), r_a hR ht (fp_mt_of hM ht), r_a hR hs (fp_mt_of hM hs)]
      by_cases e1 : (S.1 t').1 = (S.1 s').1
      · rw [if_pos (by rw [e1])]
        by_cases e2 : (S.1 t').2.1 = 2
        · rw [if_pos (fp_eqR e2), if_neg (fp_ne (fun q => h5 ⟨⟨e1, e2.trans q.symm⟩, e2⟩) (by omega) (by decide))]
        · rw [if_neg (fp_ne e2 (by omega) (by decide))]
      · rw [if_neg (by rw [nI_eq (by omega) (by omega)]; exact e1)]
  have hWle : (S.1 t').2.2.1 * (S.1 s').2.2.1 ≤ 1000000 * 1000000 := Nat.mul_le_mul bT.2.2.2.2.2.1 bU.2.2.2.2.2.1
  have hWpos : 0 < (S.1 t').2.2.1 * (S.1 s').2.2.1 := Nat.mul_pos (by omega) (by omega)
  have hle := fp_par_le (hok.1 t' ht) h4.1 h4.2.2.1 (hok.1 s' hs) h4.2.1 h4.2.2.2
  refine ⟨fp_setS S r' (S.1 t').1 2 ((S.1 t').2.2.1 * (S.1 s').2.2.1) (fp_par (S.1 t').2.2.2 (S.1 s').2.2.2), fp_setV ((S.1 t').2.2.1 * (S.1 s').2.2.1) (fp_par (S.1 t').2.2.2 (S.1 s').2.2.2), fp_set_ok hok hr bT.1 bT.2.1 (by decide) (by decide) hWpos hle (fun j hj => fp_par_0 (hok.1 t' ht) h4.1 hj), fun I J hC => ?_, fun I J hM => ?_⟩
  · obtain ⟨I1, J1, c1, c2, c3⟩ := c_startParity (L := L) (J := J) hR (tb_t ht) (tb_t hs) (hC.1 t' ht) (hC.1 s' hs) (hok.1 t' ht) (hok.1 s' hs)
    obtain ⟨I2, J2, d1, d2, d3⟩ := c_settle (L := L) hR hok (fp_CR_cong hC hok.2.1.1 (fun i _ h => c3 i (by omega))) hr hWpos (by omega) hle c2
    refine ⟨I2, J2, ?_, d2, fun i hi => by rw [d3 i hi, c3 i (by omega)]⟩
    rw [e_X6_parity]; simp only [c_isT _ ht, c_isT _ hs, c_isT _ hr, fp_oI', Option.bind_some, fp_10, if_false, k_1, cond_true, (c_areProper (L := L) (J := J) hR hok hC ht hs).1 h4, gr_1_0 hR, ar_2 hR ht, ar_2 hR hs, k_T (tb_t ht), c_hasShape (tb_t ht) (tb_t hs) (hC.1 t' ht) (hC.1 s' hs) (hok.1 t' ht) (hok.1 s' hs), fp_b_0, gi_T (tb_t ht), (hC.1 t' ht).2.1]
    rw [if_neg (not_not_intro h5.1), if_pos (fp_eqR h5.2)]
    simp only [gr_1_4 hR, Option.bind_some, k_40, k_1, cond_true, c1, fp_oV', d1, fp_oL']
  · obtain ⟨J1, c1, c2, c3⟩ := r_beginMade (L := L) (I := I) (J := J) hR
    obtain ⟨J2, e1, e2⟩ := r_parityLoop (L := L) (J := J1) hR hok hM ht hs h4.1 (nI r') c2
    obtain ⟨I3, d1, d2, d3⟩ := r_lay (L := L) (J := va_up J2 45 (va_up (J2 45) 8 (lN ((S.1 t').2.2.1 * (S.1 s').2.2.1)))) hR hok hM hr (q := (S.1 t').1) (a := 2) hWpos (by omega) hle (by rw [pm_up_same, pm_up_same]) (fun j hj => by rw [pm_up_other _ _ (by decide)]; exact e2 j hj)
    refine ⟨I3, va_up J2 45 (va_up (J2 45) 8 (lN ((S.1 t').2.2.1 * (S.1 s').2.2.1))), ?_, d2, d3⟩
    rw [e_X7_parity]; simp only [r_isT _ ht, r_isT _ hs, r_isT _ hr, fp_oI', Option.bind_some, fp_10, if_false, k_45, cond_true, (r_areProper (L := L) (J := J) hR hok hM ht hs).1 h4, r_q hR ht (fp_mt_of hM ht), r_q hR hs (fp_mt_of hM hs), r_a hR ht (fp_mt_of hM ht), r_a hR hs (fp_mt_of hM hs)]
    rw [if_pos (by rw [h5.1.1]), if_pos (fp_eqR h5.2), if_pos (fp_eqR (h5.1.2.symm.trans h5.2)), c1, fp_oV', Option.bind_some, e1, e_X7_parity_76, k_45, cond_true, r_q hR ht (fp_mt_of hM ht), fp_oI', Option.bind_some]
    dsimp only
    rw [if_pos (nI_le (Nat.le_refl _) (by omega))]
    simp only [k_45, cond_true, r_whole hR ht (fp_mt_of hM ht), r_whole hR hs (fp_mt_of hM hs), fp_oI', Option.bind_some, pl_45, r_q hR ht (fp_mt_of hM ht)]
    rw [nI_l (by omega), nI_l (by omega), lN_mul, show pm_C mX7_lay [.ref 45, .int (nI r'), .int (nI (S.1 t').1), .int 2] (fp_m L R I (va_up J2 45 (va_up (J2 45) 8 (lN ((S.1 t').2.2.1 * (S.1 s').2.2.1))))) = _ from d1, fp_oL']
    rfl
end FpParity
