/-! wire -/
def fp_wt (c d : Nat → Nat) (j b : Nat) : Nat := c (9 * (j / 9) + b) * d (9 * b + j % 9)
def fp_wn (A B N j : Nat) : Nat := if j / 9 < A then 9 else if j / 9 = A then (if j % 9 < N then B + 1 else B) else 0
def fp_ws (c d : Nat → Nat) (A B N j : Nat) : Nat := fp_sm (fp_wt c d j) (fp_wn A B N j)
def fp_wr (c d : Nat → Nat) (j : Nat) : Nat := if j < 81 then fp_sm (fp_wt c d j) 9 else 0
theorem fp_ws_up {c d : Nat → Nat} {A B N j : Nat} (hN : N < 9) : va_up (fp_ws c d A B N) (9 * A + N) (fp_ws c d A B N (9 * A + N) + c (9 * A + B) * d (9 * B + N)) j = fp_ws c d A B (N + 1) j := by
  have e1 : (9 * A + N) / 9 = A := by omega
  have e2 : (9 * A + N) % 9 = N := by omega
  unfold va_up
  by_cases e : j = 9 * A + N
  · rw [if_pos e, e]
    unfold fp_ws
    have n1 : fp_wn A B N (9 * A + N) = B := by unfold fp_wn; rw [e1, e2, if_neg (by omega), if_pos rfl, if_neg (by omega)]
    have n2 : fp_wn A B (N + 1) (9 * A + N) = B + 1 := by unfold fp_wn; rw [e1, e2, if_neg (by omega), if_pos rfl, if_pos (by omega)]
    rw [n1, n2, fp_sm]
    congr 1
    unfold fp_wt
    rw [e1, e2]
  · rw [if_neg e]
    unfold fp_ws
    congr 1
    unfold fp_wn
    by_cases g : j / 9 < A
    · rw [if_pos g, if_pos g]
    · rw [if_neg g, if_neg g]
      by_cases g2 : j / 9 = A
      · rw [if_pos g2, if_pos g2]
        exact fp_ifc (by omega)
      · rw [if_neg g2, if_neg g2]
theorem fp_ws_mid {c d : Nat → Nat} {A B j : Nat} : fp_ws c d A B 9 j = fp_ws c d A (B + 1) 0 j := by
  unfold fp_ws
  congr 1
  unfold fp_wn
  rw [if_pos (Nat.mod_lt j (by decide)), if_neg (Nat.not_lt_zero _)]
theorem fp_ws_out {c d : Nat → Nat} {A j : Nat} : fp_ws c d A 9 0 j = fp_ws c d (A + 1) 0 0 j := by
  unfold fp_ws
  congr 1
  unfold fp_wn
  rw [if_neg (Nat.not_lt_zero _), if_neg (Nat.not_lt_zero _)]
  by_cases g : j / 9 < A
  · rw [if_pos g, if_pos (by omega)]
  · rw [if_neg g]
    by_cases g2 : j / 9 = A
    · rw [if_pos g2, if_pos (by omega)]
    · rw [if_neg g2, if_neg (by omega)]
      by_cases g3 : j / 9 = A + 1
      · rw [if_pos g3]
      · rw [if_neg g3]
theorem fp_sm_mul {f g : Nat → Nat} {B : Nat} (h : ∀ i, g i ≤ B) : ∀ n, fp_sm (fun i => f i * g i) n ≤ fp_sm f n * B
  | 0 => by simp [fp_sm]
  | n + 1 => by
    have h1 := fp_sm_mul (f := f) h n
    have h2 := Nat.mul_le_mul_left (f n) (h n)
    rw [fp_sm, fp_sm, Nat.add_mul]
    omega
/-- a row of a proper table -/
theorem fp_row_sum {T : fp_T} (hok : fp_okT T) (h0 : T.1 ≠ 0) (hp : fp_pr T) {x : Nat} (hx : x < 9) : fp_sm (fun b => T.2.2.2 (9 * x + b)) 9 ≤ T.2.2.1 := by
  obtain ⟨q1, q2, q3, q4, q5, q6, q7, q8⟩ := fp_okT_1 hok h0
  by_cases h : x / 3 < T.1 ∧ x % 3 < T.1
  · have := hp (x / 3) h.1 (x % 3) h.2
    unfold fp_rs at this
    rw [← this]
    refine Nat.le_of_eq (fp_sm_cong 9 (fun i _ => ?_))
    rw [show 27 * (x / 3) + 9 * (x % 3) + i = 9 * x + i by omega]
  · rw [fp_sm_0 (fun k hk => q8 _ (fun g => h ⟨?_, ?_⟩))]
    · exact Nat.zero_le _
    · have := g.2.1
      rw [show (9 * x + k) / 27 = x / 3 by omega] at this
      exact this
    · have := g.2.2.1
      rw [show (9 * x + k) / 9 = x by omega] at this
      exact this
theorem fp_wr_le {T U : fp_T} (hT : fp_okT T) (h0 : T.1 ≠ 0) (hp : fp_pr T) (hU : fp_okT U) (j : Nat) : fp_wr T.2.2.2 U.2.2.2 j ≤ T.2.2.1 * U.2.2.1 := by
  unfold fp_wr
  by_cases h : j < 81
  · rw [if_pos h]
    have h1 := fp_sm_mul (f := fun b => T.2.2.2 (9 * (j / 9) + b)) (g := fun b => U.2.2.2 (9 * b + j % 9)) (fun i => (fp_okT_q hU).2.2.2 _) 9
    exact Nat.le_trans h1 (Nat.mul_le_mul_right _ (fp_row_sum hT h0 hp (by omega)))
  · rw [if_neg h]; exact Nat.zero_le _
theorem fp_wr_0 {T U : fp_T} (hT : fp_okT T) (h0 : T.1 ≠ 0) (hU : fp_okT U) (h0' : U.1 ≠ 0) {j : Nat} (h : ¬ fp_in T.1 U.2.1 j) : fp_wr T.2.2.2 U.2.2.2 j = 0 := by
  obtain ⟨q1, q2, q3, q4, q5, q6, q7, q8⟩ := fp_okT_1 hT h0
  obtain ⟨u1, u2, u3, u4, u5, u6, u7, u8⟩ := fp_okT_1 hU h0'
  unfold fp_wr
  by_cases h81 : j < 81
  · rw [if_pos h81]
    refine fp_sm_0 (fun b hb => ?_)
    unfold fp_wt
    by_cases g : j / 27 < T.1 ∧ j / 9 % 3 < T.1
    · rw [u8 _ (fun g2 => h ⟨h81, g.1, g.2, ?_, ?_⟩), Nat.mul_zero]
      · have := g2.2.2.2.1
        rw [show (9 * b + j % 9) / 3 % 3 = j / 3 % 3 by omega] at this
        exact this
      · have := g2.2.2.2.2
        rw [show (9 * b + j % 9) % 3 = j % 3 by omega] at this
        exact this
    · rw [q8 _ (fun g2 => g ⟨?_, ?_⟩), Nat.zero_mul]
      · have := g2.2.1
        rw [show (9 * (j / 9) + b) / 27 = j / 27 by omega] at this
        exact this
      · have := g2.2.2.1
        rw [show (9 * (j / 9) + b) / 9 % 3 = j / 9 % 3 by omega] at this
        exact this
  · rw [if_neg h81]
/-- the reference's terms -/
def fp_wk (c d : Nat → Nat) (n k i : Nat) : Nat := c (27 * (k / 27) + 9 * (k / 9 % 3) + 3 * (i / n) + i % n) * d (27 * (i / n) + 9 * (i % n) + 3 * (k / 3 % 3) + k % 3)
theorem fp_wr_eq {T : fp_T} {d : Nat → Nat} (hT : fp_okT T) (h0 : T.1 ≠ 0) {k : Nat} (hk : k < 81) : fp_wr T.2.2.2 d k = fp_sm (fp_wk T.2.2.2 d T.2.1 k) (T.2.1 * T.2.1) := by
  obtain ⟨q1, q2, q3, q4, q5, q6, q7, q8⟩ := fp_okT_1 hT h0
  unfold fp_wr
  rw [if_pos hk]
  have cov : ∀ b, b < 9 → fp_wt T.2.2.2 d k b ≠ 0 → b / 3 < T.2.1 ∧ b % 3 < T.2.1 := by
    intro b hb hne
    unfold fp_wt at hne
    have : fp_in T.1 T.2.1 (9 * (k / 9) + b) := by
      apply Classical.byContradiction
      intro g
      exact hne (by rw [q8 _ g, Nat.zero_mul])
    have g1 := this.2.2.2.1
    have g2 := this.2.2.2.2
    rw [show (9 * (k / 9) + b) / 3 % 3 = b / 3 by omega] at g1
    rw [show (9 * (k / 9) + b) % 3 = b % 3 by omega] at g2
    exact ⟨g1, g2⟩
  generalize T.2.1 = n at *
  rw [fp_reidx (g := fp_wt T.2.2.2 d k) (num := fun i => 3 * (i / n) + i % n) (n := n * n) (N := 9) ?_ ?_ ?_]
  · refine fp_sm_cong _ (fun i hi => ?_)
    unfold fp_wt fp_wk
    have e : 9 * (k / 9) + (3 * (i / n) + i % n) = 27 * (k / 27) + 9 * (k / 9 % 3) + 3 * (i / n) + i % n := by omega
    have e2 : 9 * (3 * (i / n) + i % n) + k % 9 = 27 * (i / n) + 9 * (i % n) + 3 * (k / 3 % 3) + k % 3 := by omega
    rw [e, e2]
  · intro i hi
    rcases (by omega : n = 2 ∨ n = 3) with rfl | rfl <;> (show 3 * _ + _ < 9; omega)
  · intro i j hi hj
    rcases (by omega : n = 2 ∨ n = 3) with rfl | rfl <;> (show 3 * _ + _ = 3 * _ + _ → _; omega)
  · intro b hb hne
    obtain ⟨g1, g2⟩ := cov b hb hne
    refine ⟨n * (b / 3) + b % 3, ?_, ?_⟩
    · rcases (by omega : n = 2 ∨ n = 3) with rfl | rfl <;> omega
    · show 3 * ((n * (b / 3) + b % 3) / n) + (n * (b / 3) + b % 3) % n = b
      rcases (by omega : n = 2 ∨ n = 3) with rfl | rfl <;> omega
/-- both are there and proper -/
def fp_pp2 (T U : fp_T) : Prop := T.1 ≠ 0 ∧ U.1 ≠ 0 ∧ fp_pr T ∧ fp_pr U
section FpWire
variable {L : Nat} {R : Nat → Nat → Option Nat} {I : Nat → Nat → Int32} {J : Nat → Nat → Int64}
theorem c_areProper (hR : fp_RK R) {S : fp_S} (hok : fp_ok S) (hC : fp_CR S I) {t s : Nat} (ht : t < 8) (hs : s < 8) : (fp_pp2 (S.1 t) (S.1 s) → pm_C mX6_areProper [.ref 1, .int (nI t), .int (nI s)] (fp_m L R I J) = some (.int 1, fp_m L R I J)) ∧ (¬ fp_pp2 (S.1 t) (S.1 s) → pm_C mX6_areProper [.ref 1, .int (nI t), .int (nI s)] (fp_m L R I J) = some (.int 0, fp_m L R I J)) := by
  have p1 := c_isProper (L := L) (J := J) hR (tb_t ht) (hC.1 t ht) (hok.1 t ht)
  have p2 := c_isProper (L := L) (J := J) hR (tb_t hs) (hC.1 s hs) (hok.1 s hs)
  have b1 := (fp_okT_q (hok.1 t ht)).1
  have b2 := (fp_okT_q (hok.1 s hs)).1
  rw [e_X6_areProper]
  simp only [gr_1_0 hR, Option.bind_some, ar_2 hR ht, k_T (tb_t ht), cond_true]
  by_cases h1 : (S.1 t).1 = 0
  · rw [c_isMissing (tb_t ht) (hC.1 t ht) h1, fp_oI']
    simp only [Option.bind_some, fp_10, if_false]
    exact ⟨fun h => absurd h1 h.1, fun _ => by first | rfl | trivial⟩
  rw [c_isMissing0 (tb_t ht) (hC.1 t ht) h1 b1, fp_oI']
  simp only [Option.bind_some, if_true, gr_1_0 hR, ar_2 hR hs, k_T (tb_t hs), cond_true]
  by_cases h2 : (S.1 s).1 = 0
  · rw [c_isMissing (tb_t hs) (hC.1 s hs) h2, fp_oI']
    simp only [Option.bind_some, fp_10, if_false]
    exact ⟨fun h => absurd h2 h.2.1, fun _ => by first | rfl | trivial⟩
  rw [c_isMissing0 (tb_t hs) (hC.1 s hs) h2 b2, fp_oI']
  simp only [Option.bind_some, if_true, gr_1_0 hR, ar_2 hR ht, k_T (tb_t ht), cond_true]
  by_cases h3 : fp_pr (S.1 t)
  · rw [p1.1 h3, fp_oI']
    simp only [Option.bind_some, fp_10, if_false, gr_1_0 hR, ar_2 hR hs, k_T (tb_t hs), cond_true]
    by_cases h4 : fp_pr (S.1 s)
    · rw [p2.1 h4, fp_oI']
      simp only [Option.bind_some, fp_10, if_false]
      exact ⟨fun _ => by first | rfl | trivial, fun h => absurd ⟨h1, h2, h3, h4⟩ h⟩
    · rw [p2.2 h4, fp_oI']
      simp only [Option.bind_some, if_true]
      exact ⟨fun h => absurd h.2.2.2 h4, fun _ => by first | rfl | trivial⟩
  · rw [p1.2 h3, fp_oI']
    simp only [Option.bind_some, if_true]
    exact ⟨fun h => absurd h.2.2.1 h3, fun _ => by first | rfl | trivial⟩
theorem r_areProper (hR : fp_RK R) {S : fp_S} (hok : fp_ok S) (hM : fp_MR S I) {t s : Nat} (ht : t < 8) (hs : s < 8) : (fp_pp2 (S.1 t) (S.1 s) → pm_C mX7_areProper [.ref 45, .int (nI t), .int (nI s)] (fp_m L R I J) = some (.int 1, fp_m L R I J)) ∧ (¬ fp_pp2 (S.1 t) (S.1 s) → pm_C mX7_areProper [.ref 45, .int (nI t), .int (nI s)] (fp_m L R I J) = some (.int 0, fp_m L R I J)) := by
  have p1 := r_isProper (L := L) (J := J) hR ht (fp_mt_of hM ht) (hok.1 t ht)
  have p2 := r_isProper (L := L) (J := J) hR hs (fp_mt_of hM hs) (hok.1 s hs)
  have b1 := (fp_okT_q (hok.1 t ht)).1
  have b2 := (fp_okT_q (hok.1 s hs)).1
  rw [e_X7_areProper, k_45, cond_true]
  by_cases h1 : (S.1 t).1 = 0
  · rw [r_isMissing hR ht (fp_mt_of hM ht) h1, fp_oI']
    simp only [Option.bind_some, fp_10, if_false]
    exact ⟨fun h => absurd h1 h.1, fun _ => by first | rfl | trivial⟩
  rw [r_isMissing0 hR ht (fp_mt_of hM ht) h1 b1, fp_oI']
  simp only [Option.bind_some, if_true, k_45, cond_true]
  by_cases h2 : (S.1 s).1 = 0
  · rw [r_isMissing hR hs (fp_mt_of hM hs) h2, fp_oI']
    simp only [Option.bind_some, fp_10, if_false]
    exact ⟨fun h => absurd h2 h.2.1, fun _ => by first | rfl | trivial⟩
  rw [r_isMissing0 hR hs (fp_mt_of hM hs) h2 b2, fp_oI']
  simp only [Option.bind_some, if_true, k_45, cond_true]
  by_cases h3 : fp_pr (S.1 t)
  · rw [p1.1 h3, fp_oI']
    simp only [Option.bind_some, fp_10, if_false, k_45, cond_true]
    by_cases h4 : fp_pr (S.1 s)
    · rw [p2.1 h4, fp_oI']
      simp only [Option.bind_some, fp_10, if_false]
      exact ⟨fun _ => by first | rfl | trivial, fun h => absurd ⟨h1, h2, h3, h4⟩ h⟩
    · rw [p2.2 h4, fp_oI']
      simp only [Option.bind_some, if_true]
      exact ⟨fun h => absurd h.2.2.2 h4, fun _ => by first | rfl | trivial⟩
  · rw [p1.2 h3, fp_oI']
    simp only [Option.bind_some, if_true]
    exact ⟨fun h => absurd h.2.2.1 h3, fun _ => by first | rfl | trivial⟩
theorem c_startWired (hR : fp_RK R) {r1 r2 : Nat} (t1 : fp_tb r1) (t2 : fp_tb r2) {T U : fp_T} (hT : fp_at I r1 T) (hU : fp_at I r2 U) (oT : fp_okT T) (oU : fp_okT U) : ∃ I' J', pm_C mX1_startWired [.ref 40, .ref r1, .ref r2] (fp_m L R I J) = some (.null, fp_m L R I' J') ∧ fp_dr I' J' T.1 U.2.1 (T.2.2.1 * U.2.2.1) (fp_wr T.2.2.2 U.2.2.2) ∧ ∀ i, i ≠ 40 → I' i = I i := by
  have bT := fp_okT_q oT
  have bU := fp_okT_q oU
  have cT : ∀ j, T.2.2.2 j < 2 ^ 31 := fun j => Nat.lt_of_le_of_lt (Nat.le_trans (bT.2.2.2 j) bT.2.2.1) (by decide)
  have cU : ∀ j, U.2.2.2 j < 2 ^ 31 := fun j => Nat.lt_of_le_of_lt (Nat.le_trans (bU.2.2.2 j) bU.2.2.1) (by decide)
  have p1 := fp_tb_pos t1
  have p2 := fp_tb_pos t2
  obtain ⟨I1, J1, c1, c2, c3⟩ := c_start (L := L) (I := I) (J := J) hR T.1 U.2.1
  have hT1 : fp_at I1 r1 T := fp_at_cong hT (c3 _ (by omega)) (c3 _ (by omega))
  have hU1 : fp_at I1 r2 U := fp_at_cong hU (c3 _ (by omega)) (c3 _ (by omega))
  have g0 : fp_dr I1 (va_up J1 40 (va_up (J1 40) 2 (lN (T.2.2.1 * U.2.2.1)))) T.1 U.2.1 (T.2.2.1 * U.2.2.1) (fun _ => 0) := by
    refine ⟨c2.1, c2.2.1, ?_, fun j hj => ?_⟩
    · rw [pm_up_same, pm_up_same]
    · rw [pm_up_other _ _ (by decide)]; exact c2.2.2.2 j hj
  let D : Nat → Nat → Nat → (Nat → Nat → Int64) → Prop := fun A B N J' => fp_dr I1 J' T.1 U.2.1 (T.2.2.1 * U.2.2.1) (fp_ws T.2.2.2 U.2.2.2 A B N)
  have mid : ∀ A B (J' : Nat → Nat → Int64), A < 9 → B < 9 → D A B 0 J' → ∃ J2, D A (B + 1) 0 J2 ∧ pm_res mX1_startWired 38 [(0, .ref 40), (1, .ref r1), (2, .ref r2), (3, .int (nI A)), (4, .int (nI B))] [] (fp_m L R I1 J') = pm_res mX1_startWired 38 [(0, .ref 40), (1, .ref r1), (2, .ref r2), (3, .int (nI A)), (4, .int (nI (B + 1)))] [] (fp_m L R I1 J2) := by
    intro A B J' hA hB hD
    obtain ⟨J2, q2, e2⟩ := fp_li0 (fun N (J' : Nat → Nat → Int64) => pm_res mX1_startWired 63 [(0, .ref 40), (1, .ref r1), (2, .ref r2), (3, .int (nI A)), (4, .int (nI B)), (5, .long (lN (T.2.2.2 (9 * A + B)))), (7, .int (nI N))] [] (fp_m L R I1 J')) (fun N J' => D A B N J') 9 (fun N J' hN p => by
      refine ⟨_, fp_dr_cg (fp_dr_up (j := 9 * A + N) (v := fp_ws T.2.2.2 U.2.2.2 A B N (9 * A + N) + T.2.2.2 (9 * A + B) * U.2.2.2 (9 * B + N)) p) (fun j hj => fp_ws_up hN), ?_⟩
      rw [e_X1_startWired_63, if_neg (fp_ge hN (by decide))]
      simp only [gr_40_3 hR, Option.bind_some, nm_9, nI_add]
      rw [ai_41 (by omega), Option.bind_some, p.2.2.2 _ (by omega)]
      simp only [gr_T hR t2, Option.bind_some]
      rw [ai_T t2 (by omega), Option.bind_some, hU1.2.2.2 _ (by omega), nI_l (cU _), lN_mul, lN_add, si_41 (by omega), Option.bind_some, nI_1]) (s := J') hD
    refine ⟨J2, fp_dr_cg q2 (fun j _ => fp_ws_mid), ?_⟩
    rw [e_X1_startWired_38, if_neg (fp_ge hB (by decide))]
    simp only [gr_T hR t1, Option.bind_some, nm_9, nI_add]
    rw [ai_T t1 (by omega), Option.bind_some, hT1.2.2.2 _ (by omega), nI_l (cT _)]
    refine (show pm_res mX1_startWired 63 [(0, .ref 40), (1, .ref r1), (2, .ref r2), (3, .int (nI A)), (4, .int (nI B)), (5, .long (lN (T.2.2.2 (9 * A + B)))), (7, .int 0)] [] (fp_m L R I1 J') = _ from e2).trans ?_
    rw [e_X1_startWired_63, if_pos (fp_le (Nat.le_refl _) (by decide)), nI_1]
  have outer : ∀ A (J' : Nat → Nat → Int64), A < 9 → D A 0 0 J' → ∃ J2, D (A + 1) 0 0 J2 ∧ pm_res mX1_startWired 29 [(0, .ref 40), (1, .ref r1), (2, .ref r2), (3, .int (nI A))] [] (fp_m L R I1 J') = pm_res mX1_startWired 29 [(0, .ref 40), (1, .ref r1), (2, .ref r2), (3, .int (nI (A + 1)))] [] (fp_m L R I1 J2) := by
    intro A J' hA hD
    obtain ⟨J2, q2, e2⟩ := fp_li0 (fun B (J' : Nat → Nat → Int64) => pm_res mX1_startWired 38 [(0, .ref 40), (1, .ref r1), (2, .ref r2), (3, .int (nI A)), (4, .int (nI B))] [] (fp_m L R I1 J')) (fun B J' => D A B 0 J') 9 (fun B J' hB p => mid A B J' hA hB p) (s := J') hD
    refine ⟨J2, fp_dr_cg q2 (fun j _ => fp_ws_out), ?_⟩
    rw [e_X1_startWired_29, if_neg (fp_ge hA (by decide))]
    refine (show pm_res mX1_startWired 38 [(0, .ref 40), (1, .ref r1), (2, .ref r2), (3, .int (nI A)), (4, .int 0)] [] (fp_m L R I1 J') = _ from e2).trans ?_
    rw [e_X1_startWired_38, if_pos (fp_le (Nat.le_refl _) (by decide)), nI_1]
  obtain ⟨J2, q2, e2⟩ := fp_li0 (fun A (J' : Nat → Nat → Int64) => pm_res mX1_startWired 29 [(0, .ref 40), (1, .ref r1), (2, .ref r2), (3, .int (nI A))] [] (fp_m L R I1 J')) (fun A J' => D A 0 0 J') 9 outer (s := va_up J1 40 (va_up (J1 40) 2 (lN (T.2.2.1 * U.2.2.1)))) (fp_dr_cg g0 (fun j _ => by
    unfold fp_ws fp_wn
    rw [if_neg (Nat.not_lt_zero _), if_neg (Nat.not_lt_zero _), ite_self]
    rfl))
  refine ⟨I1, J2, ?_, fp_dr_cg q2 (fun j hj => ?_), c3⟩
  · rw [e_X1_startWired]
    simp only [gi_T t1, gi_T t2, hT.1, hU.2.1, Option.bind_some, k_40, cond_true, c1, fp_oV', hT1.2.2.1, hU1.2.2.1, pl_40]
    rw [nI_l (by omega), nI_l (by omega), lN_mul]
    refine (show pm_res mX1_startWired 29 [(0, .ref 40), (1, .ref r1), (2, .ref r2), (3, .int 0)] [] (fp_m L R I1 (va_up J1 40 (va_up (J1 40) 2 (lN (T.2.2.1 * U.2.2.1))))) = _ from e2).trans ?_
    rw [e_X1_startWired_29, if_pos (fp_le (Nat.le_refl _) (by decide))]
  · unfold fp_ws fp_wn fp_wr
    rw [if_pos (by omega), if_pos hj]
theorem r_wireLoop (hR : fp_RK R) {S : fp_S} (hok : fp_ok S) (hM : fp_MR S I) {t s : Nat} (ht : t < 8) (hs : s < 8) (h0 : (S.1 t).1 ≠ 0) (x3 : Int32) (hJ : ∀ j, j < 81 → J 50 j = lN 0) : ∃ J', pm_res mX7_wire 65 [(0, .ref 45), (1, .int (nI t)), (2, .int (nI s)), (3, .int x3), (4, .int (nI (S.1 t).2.1)), (5, .int 0)] [] (fp_m L R I J) = pm_res mX7_wire 65 [(0, .ref 45), (1, .int (nI t)), (2, .int (nI s)), (3, .int x3), (4, .int (nI (S.1 t).2.1)), (5, .int (nI 81))] [] (fp_m L R I J') ∧ ∀ j, j < 81 → J' 50 j = lN (fp_wr (S.1 t).2.2.2 (S.1 s).2.2.2 j) := by
  have bT := fp_okT_q (hok.1 t ht)
  have bU := fp_okT_q (hok.1 s hs)
  obtain ⟨q1, q2, q3, q4, q5, q6, q7, q8⟩ := fp_okT_1 (hok.1 t ht) h0
  have cT : ∀ j, (S.1 t).2.2.2 j < 2 ^ 31 := fun j => Nat.lt_of_le_of_lt (Nat.le_trans (bT.2.2.2 j) bT.2.2.1) (by decide)
  have cU : ∀ j, (S.1 s).2.2.2 j < 2 ^ 31 := fun j => Nat.lt_of_le_of_lt (Nat.le_trans (bU.2.2.2 j) bU.2.2.1) (by decide)
  have hz : decide (nI (S.1 t).2.1 = 0) = false := decide_eq_false (nI_ne0 (by omega) (by omega))
  have hnn : (S.1 t).2.1 * (S.1 t).2.1 ≤ 9 := Nat.mul_le_mul q4 q4
  obtain ⟨J2, p2, e2⟩ := fp_li0 (fun k (J' : Nat → Nat → Int64) => pm_res mX7_wire 65 [(0, .ref 45), (1, .int (nI t)), (2, .int (nI s)), (3, .int x3), (4, .int (nI (S.1 t).2.1)), (5, .int (nI k))] [] (fp_m L R I J')) (fun k J' => ∀ j, j < 81 → J' 50 j = lN (if j < k then fp_wr (S.1 t).2.2.2 (S.1 s).2.2.2 j else 0)) 81 (fun k J' hk p => by
    have head : ∀ J', pm_res mX7_wire 65 [(0, .ref 45), (1, .int (nI t)), (2, .int (nI s)), (3, .int x3), (4, .int (nI (S.1 t).2.1)), (5, .int (nI k))] [] (fp_m L R I J') = pm_res mX7_wire 91 [(0, .ref 45), (1, .int (nI t)), (2, .int (nI s)), (3, .int x3), (4, .int (nI (S.1 t).2.1)), (5, .int (nI k)), (6, .int (nI (k / 27))), (7, .int (nI (k / 9 % 3))), (8, .int (nI 0))] [] (fp_m L R I J') := by
      intro J'
      rw [e_X7_wire_65, if_neg (fp_ge hk (by decide)), nd_27 (by omega), nd_9 (by omega), nq_3 (by omega)]
      rfl
    by_cases hin : k / 27 < (S.1 t).1 ∧ k / 9 % 3 < (S.1 t).1
    · obtain ⟨J3, p3, e3⟩ := fp_li0 (fun i (J' : Nat → Nat → Int64) => pm_res mX7_wire 91 [(0, .ref 45), (1, .int (nI t)), (2, .int (nI s)), (3, .int x3), (4, .int (nI (S.1 t).2.1)), (5, .int (nI k)), (6, .int (nI (k / 27))), (7, .int (nI (k / 9 % 3))), (8, .int (nI i))] [] (fp_m L R I J')) (fun i J' => ∀ j, j < 81 → J' 50 j = lN (if j < k then fp_wr (S.1 t).2.2.2 (S.1 s).2.2.2 j else if j = k then fp_sm (fp_wk (S.1 t).2.2.2 (S.1 s).2.2.2 (S.1 t).2.1 k) i else 0)) ((S.1 t).2.1 * (S.1 t).2.1) (fun i J' hi p => by
        have hx : i / (S.1 t).2.1 < (S.1 t).2.1 := Nat.div_lt_of_lt_mul hi
        have hy : i % (S.1 t).2.1 < (S.1 t).2.1 := Nat.mod_lt _ (by omega)
        refine ⟨va_up J' 50 (va_up (J' 50) k (lN (fp_sm (fp_wk (S.1 t).2.2.2 (S.1 s).2.2.2 (S.1 t).2.1 k) (i + 1)))), fun j hj => ?_, ?_⟩
        · rw [pm_up_same]
          by_cases e : j = k
          · rw [e, pm_up_same, if_neg (Nat.lt_irrefl k), if_pos rfl]
          · rw [pm_up_other _ _ e, p j hj, if_neg e, if_neg e]
        · rw [e_X7_wire_91, pk_mul, if_neg (nI_ge hi (by omega))]
          simp only [k_45, cond_true, r_q hR ht (fp_mt_of hM ht), fp_oI', Option.bind_some]
          rw [if_neg (nI_ge hin.1 (by omega)), if_neg (nI_ge hin.2 (by omega))]
          simp only [gr_45_7 hR, Option.bind_some, hz, pm_nz]
          rw [ai_50 hk, Option.bind_some, p k hk, if_neg (Nat.lt_irrefl k), if_pos rfl, pk_div (by omega) (by omega) (by omega), fp_rem (by omega) (by omega) (by omega), r_get hR ht (by omega) (by omega) (by omega) (by omega) (fp_mt_of hM ht), fp_oI']
          simp only [Option.bind_some, k_45, cond_true]
          rw [nd_3 (by omega), nq_3 (show k / 3 < 2 ^ 31 by omega), nq_3 (show k < 2 ^ 31 by omega), r_get hR hs (by omega) (by omega) (by omega) (by omega) (fp_mt_of hM hs), fp_oI']
          simp only [Option.bind_some]
          rw [nI_l (cT _), nI_l (cU _), lN_mul, lN_add, si_50 hk, Option.bind_some, nI_1]
          rfl) (s := J') (fun j hj => by
            rw [p j hj]
            congr 1
            by_cases e : j < k
            · rw [if_pos e, if_pos e]
            · rw [if_neg e, if_neg e]
              exact (ite_self 0).symm)
      refine ⟨J3, fun j hj => ?_, ?_⟩
      · rw [p3 j hj, fp_wr_eq (hok.1 t ht) h0 hj]
        congr 1
        by_cases e : j < k
        · rw [if_pos e, if_pos (by omega)]
        · rw [if_neg e]
          by_cases e2 : j = k
          · rw [if_pos e2, if_pos (by omega), e2]
          · rw [if_neg e2, if_neg (by omega)]
      · rw [head]
        refine e3.trans ?_
        rw [e_X7_wire_91, pk_mul, if_pos (nI_le (Nat.le_refl _) (by omega)), nI_1]
    · refine ⟨J', fun j hj => ?_, ?_⟩
      · rw [p j hj]
        congr 1
        by_cases e : j < k
        · rw [if_pos e, if_pos (by omega)]
        · rw [if_neg e]
          by_cases e2 : j = k
          · rw [if_pos (by omega), e2]
            unfold fp_wr
            rw [if_pos hk]
            refine (fp_sm_0 (fun b hb => ?_)).symm
            unfold fp_wt
            rw [q8 _ (fun g2 => hin ⟨?_, ?_⟩), Nat.zero_mul]
            · have := g2.2.1
              rw [show (9 * (k / 9) + b) / 27 = k / 27 by omega] at this
              exact this
            · have := g2.2.2.1
              rw [show (9 * (k / 9) + b) / 9 % 3 = k / 9 % 3 by omega] at this
              exact this
          · rw [if_neg (by omega)]
      · rw [head, e_X7_wire_91, pk_mul, if_neg (nI_ge (show 0 < (S.1 t).2.1 * (S.1 t).2.1 from Nat.mul_pos (by omega) (by omega)) (by omega))]
        simp only [k_45, cond_true, r_q hR ht (fp_mt_of hM ht), fp_oI', Option.bind_some]
        by_cases g : k / 27 < (S.1 t).1
        · rw [if_neg (nI_ge g (by omega)), if_pos (nI_le (by omega) (by omega)), nI_1]
        · rw [if_pos (nI_le (by omega) (by omega)), nI_1]) (s := J) (fun j hj => by rw [hJ j hj, if_neg (Nat.not_lt_zero j)])
  exact ⟨J2, e2, fun j hj => by rw [p2 j hj, if_pos hj]⟩
theorem b_wire (hR : fp_RK R) (t s r : Int32) : fp_Both L R mX6_wire mX7_wire [.int t, .int s, .int r] := by
  intro S hok
  by_cases h1 : 0 ≤ t.toInt ∧ t.toInt < 8
  case neg =>
    refine ⟨S, pm_BAD, hok, fp_Cs.same fun I J hC => ?_, fp_Ms.same fun I J hM => ?_⟩
    · rw [e_X6_wire, c_isT0 _ h1, fp_oI']; rfl
    · rw [e_X7_wire, r_isT0 _ h1, fp_oI']; rfl
  obtain ⟨t', ht, rfl⟩ := fp_nat (k := 8) h1.1 h1.2 (by decide)
  by_cases h2 : 0 ≤ s.toInt ∧ s.toInt < 8
  case neg =>
    refine ⟨S, pm_BAD, hok, fp_Cs.same fun I J hC => ?_, fp_Ms.same fun I J hM => ?_⟩
    · rw [e_X6_wire]; simp only [c_isT _ ht, fp_oI', Option.bind_some, fp_10, if_false, c_isT0 _ h2, if_true]
    · rw [e_X7_wire]; simp only [r_isT _ ht, fp_oI', Option.bind_some, fp_10, if_false, r_isT0 _ h2, if_true]
  obtain ⟨s', hs, rfl⟩ := fp_nat (k := 8) h2.1 h2.2 (by decide)
  by_cases h3 : 0 ≤ r.toInt ∧ r.toInt < 8
  case neg =>
    refine ⟨S, pm_BAD, hok, fp_Cs.same fun I J hC => ?_, fp_Ms.same fun I J hM => ?_⟩
    · rw [e_X6_wire]; simp only [c_isT _ ht, c_isT _ hs, fp_oI', Option.bind_some, fp_10, if_false, c_isT0 _ h3, if_true]
    · rw [e_X7_wire]; simp only [r_isT _ ht, r_isT _ hs, fp_oI', Option.bind_some, fp_10, if_false, r_isT0 _ h3, if_true]
  obtain ⟨r', hr, rfl⟩ := fp_nat (k := 8) h3.1 h3.2 (by decide)
  by_cases h4 : fp_pp2 (S.1 t') (S.1 s')
  case neg =>
    refine ⟨S, pm_NO, hok, fp_Cs.same fun I J hC => ?_, fp_Ms.same fun I J hM => ?_⟩
    · rw [e_X6_wire]; simp only [c_isT _ ht, c_isT _ hs, c_isT _ hr, fp_oI', Option.bind_some, fp_10, if_false, k_1, cond_true, (c_areProper (L := L) (J := J) hR hok hC ht hs).2 h4, if_true]
    · rw [e_X7_wire]; simp only [r_isT _ ht, r_isT _ hs, r_isT _ hr, fp_oI', Option.bind_some, fp_10, if_false, k_45, cond_true, (r_areProper (L := L) (J := J) hR hok hM ht hs).2 h4, if_true]
  have bT := fp_okT_1 (hok.1 t' ht) h4.1
  have bU := fp_okT_1 (hok.1 s' hs) h4.2.1
  by_cases h5 : (S.1 t').2.1 = (S.1 s').1
  case neg =>
    refine ⟨S, pm_NO, hok, fp_Cs.same fun I J hC => ?_, fp_Ms.same fun I J hM => ?_⟩
    · rw [e_X6_wire]; simp only [c_isT _ ht, c_isT _ hs, c_isT _ hr, fp_oI', Option.bind_some, fp_10, if_false, k_1, cond_true, (c_areProper (L := L) (J := J) hR hok hC ht hs).1 h4, gr_1_0 hR, ar_2 hR ht, ar_2 hR hs, gi_T (tb_t ht), gi_T (tb_t hs), (hC.1 t' ht).2.1, (hC.1 s' hs).1]
      rw [if_neg (by rw [nI_eq (by omega) (by omega)]; exact h5)]
    · rw [e_X7_wire]; simp only [r_isT _ ht, r_isT _ hs, r_isT _ hr, fp_oI', Option.bind_some, fp_10, if_false, k_45, cond_true, (r_areProper (L := L) (J := J) hR hok hM ht hs).1 h4, r_a hR ht (fp_mt_of hM ht), r_q hR hs (fp_mt_of hM hs)]
      rw [if_neg (by rw [nI_eq (by omega) (by omega)]; exact h5)]
  have hWle : (S.1 t').2.2.1 * (S.1 s').2.2.1 ≤ 1000000 * 1000000 := Nat.mul_le_mul bT.2.2.2.2.2.1 bU.2.2.2.2.2.1
  have hWpos : 0 < (S.1 t').2.2.1 * (S.1 s').2.2.1 := Nat.mul_pos (by omega) (by omega)
  have hle := fp_wr_le (hok.1 t' ht) h4.1 h4.2.2.1 (hok.1 s' hs)
  refine ⟨fp_setS S r' (S.1 t').1 (S.1 s').2.1 ((S.1 t').2.2.1 * (S.1 s').2.2.1) (fp_wr (S.1 t').2.2.2 (S.1 s').2.2.2), fp_setV ((S.1 t').2.2.1 * (S.1 s').2.2.1) (fp_wr (S.1 t').2.2.2 (S.1 s').2.2.2), fp_set_ok hok hr bT.1 bT.2.1 bU.2.2.1 bU.2.2.2.1 hWpos hle (fun j hj => fp_wr_0 (hok.1 t' ht) h4.1 (hok.1 s' hs) h4.2.1 hj), fun I J hC => ?_, fun I J hM => ?_⟩
  · obtain ⟨I1, J1, c1, c2, c3⟩ := c_startWired (L := L) (J := J) hR (tb_t ht) (tb_t hs) (hC.1 t' ht) (hC.1 s' hs) (hok.1 t' ht) (hok.1 s' hs)
    obtain ⟨I2, J2, d1, d2, d3⟩ := c_settle (L := L) hR hok (fp_CR_cong hC hok.2.1.1 (fun i _ h => c3 i (by omega))) hr hWpos (by omega) hle c2
    refine ⟨I2, J2, ?_, d2, fun i hi => by rw [d3 i hi, c3 i (by omega)]⟩
    rw [e_X6_wire]; simp only [c_isT _ ht, c_isT _ hs, c_isT _ hr, fp_oI', Option.bind_some, fp_10, if_false, k_1, cond_true, (c_areProper (L := L) (J := J) hR hok hC ht hs).1 h4, gr_1_0 hR, ar_2 hR ht, ar_2 hR hs, gi_T (tb_t ht), gi_T (tb_t hs), (hC.1 t' ht).2.1, (hC.1 s' hs).1]
    rw [if_pos (by rw [h5])]
    simp only [gr_1_4 hR, Option.bind_some, k_40, k_1, cond_true, c1, fp_oV', d1, fp_oL']
  · obtain ⟨J1, c1, c2, c3⟩ := r_beginMade (L := L) (I := I) (J := J) hR
    obtain ⟨J2, e1, e2⟩ := r_wireLoop (L := L) (J := J1) hR hok hM ht hs h4.1 (nI r') c2
    obtain ⟨I3, d1, d2, d3⟩ := r_lay (L := L) (J := va_up J2 45 (va_up (J2 45) 8 (lN ((S.1 t').2.2.1 * (S.1 s').2.2.1)))) hR hok hM hr (q := (S.1 t').1) (a := (S.1 s').2.1) hWpos (by omega) hle (by rw [pm_up_same, pm_up_same]) (fun j hj => by rw [pm_up_other _ _ (by decide)]; exact e2 j hj)
    refine ⟨I3, va_up J2 45 (va_up (J2 45) 8 (lN ((S.1 t').2.2.1 * (S.1 s').2.2.1))), ?_, d2, d3⟩
    rw [e_X7_wire]; simp only [r_isT _ ht, r_isT _ hs, r_isT _ hr, fp_oI', Option.bind_some, fp_10, if_false, k_45, cond_true, (r_areProper (L := L) (J := J) hR hok hM ht hs).1 h4, r_a hR ht (fp_mt_of hM ht), r_q hR hs (fp_mt_of hM hs)]
    rw [if_pos (by rw [h5]), c1, fp_oV']
    simp only [Option.bind_some, k_45, cond_true, r_a hR ht (fp_mt_of hM ht), fp_oI']
    rw [e1, e_X7_wire_65, if_pos (fp_le (Nat.le_refl _) (by decide))]
    simp only [k_45, cond_true, r_whole hR ht (fp_mt_of hM ht), r_whole hR hs (fp_mt_of hM hs), fp_oI', Option.bind_some, pl_45, r_q hR ht (fp_mt_of hM ht), r_a hR hs (fp_mt_of hM hs)]
    rw [nI_l (by omega), nI_l (by omega), lN_mul, d1, fp_oL']
    rfl
end FpWire
