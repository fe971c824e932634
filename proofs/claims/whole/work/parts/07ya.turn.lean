/-! turn -/
def fp_m0 (j : Nat) : Nat := 27 * (j / 9 % 3) + 9 * (j / 27) + 3 * (j % 3) + j / 3 % 3
theorem fp_m0_at {x y a b : Nat} (hy : y < 3) (ha : a < 3) (hb : b < 3) : fp_m0 (27 * x + 9 * y + 3 * a + b) = 27 * y + 9 * x + 3 * b + a := by
  obtain ⟨e1, e2, e3, e4, -⟩ := fp_jc (x := x) hy ha hb
  unfold fp_m0
  rw [e1, e2, e3, e4]
theorem fp_m0_lt {j : Nat} (hj : j < 81) : fp_m0 j < 81 := by unfold fp_m0; omega
theorem fp_m0_m0 {j : Nat} (hj : j < 81) : fp_m0 (fp_m0 j) = j := by
  obtain ⟨x, y, a, b, hx, hy, ha, hb, rfl⟩ := fp_jd hj
  rw [fp_m0_at hy ha hb, fp_m0_at hx hb ha]
def fp_PI (m : Nat → Nat) (i j : Nat) : Bool := decide (j < i ∨ m j < i)
def fp_mR (p l j : Nat) : Nat := fp_sp p (fp_sw 0 l (fp_O p j)) (fp_K p j) (fp_V p j) (fp_E p j)
theorem fp_mR_at {p l O K V E : Nat} (hO : O < 3) (hK : K < 3) (hV : V < 3) (hE : E < 3) : fp_mR p l (fp_sp p O K V E) = fp_sp p (fp_sw 0 l O) K V E := by
  obtain ⟨e1, e2, e3, e4⟩ := fp_spc (p := p) hO hK hV hE
  unfold fp_mR
  rw [e1, e2, e3, e4]
def fp_PR (p l A n j : Nat) : Bool := decide ((fp_O p j = 0 ∨ fp_O p j = l) ∧ fp_V p j < A ∧ fp_E p j < A ∧ 9 * fp_K p j + 3 * fp_V p j + fp_E p j < n)
theorem fp_PR_at {p l A n O K V E : Nat} (hO : O < 3) (hK : K < 3) (hV : V < 3) (hE : E < 3) : fp_PR p l A n (fp_sp p O K V E) = decide ((O = 0 ∨ O = l) ∧ V < A ∧ E < A ∧ 9 * K + 3 * V + E < n) := by
  obtain ⟨e1, e2, e3, e4⟩ := fp_spc (p := p) hO hK hV hE
  unfold fp_PR
  rw [e1, e2, e3, e4]
theorem fp_PR_cg {p l A n n' j : Nat} (h : fp_V p j < A → fp_E p j < A → (9 * fp_K p j + 3 * fp_V p j + fp_E p j < n ↔ 9 * fp_K p j + 3 * fp_V p j + fp_E p j < n')) : fp_PR p l A n j = fp_PR p l A n' j := by
  unfold fp_PR
  congr 1
  apply propext
  constructor
  · rintro ⟨t1, t2, t3, t4⟩; exact ⟨t1, t2, t3, (h t2 t3).mp t4⟩
  · rintro ⟨t1, t2, t3, t4⟩; exact ⟨t1, t2, t3, (h t2 t3).mpr t4⟩
theorem fp_VE (p j : Nat) : fp_V p j < 3 ∧ fp_E p j < 3 := by
  unfold fp_V fp_E
  split <;> omega
def fp_mT (w l : Nat) : Nat → Nat := if w = 0 then fp_m0 else fp_mR (w - 1) l
section FpTurn
variable {L : Nat} {R : Nat → Nat → Option Nat} {I : Nat → Nat → Int32} {J : Nat → Nat → Int64}
theorem c_exPeople (hR : fp_RK R) {r q A w : Nat} {c : Nat → Nat} (hr : fp_tb r) (hT : fp_at I r (q, A, w, c)) : ∃ I', pm_C mX5_exchangePeople [.ref r] (fp_m L R I J) = some (.null, fp_m L R I' J) ∧ fp_at I' r (q, A, w, fp_mv fp_m0 c) ∧ ∀ x, x ≠ r → x ≠ r + 1 → I' x = I x := by
  obtain ⟨I2, p2, e2⟩ := fp_li0 (fun i (I' : Nat → Nat → Int32) => pm_res mX5_exchangePeople 2 [(0, .ref r), (1, .int (nI i))] [] (fp_m L R I' J)) (fun i I' => fp_at I' r (q, A, w, fp_ms fp_m0 (fp_PI fp_m0 i) c) ∧ ∀ x, x ≠ r → x ≠ r + 1 → I' x = I x) 81 (fun i I' hi ⟨pa, pf⟩ => by
    have hm := fp_m0_lt hi
    have hmm := fp_m0_m0 hi
    have step : pm_res mX5_exchangePeople 2 [(0, .ref r), (1, .int (nI i))] [] (fp_m L R I' J) = if nI (fp_m0 i) ≤ nI i then (pm_res mX5_exchangePeople 2 [(0, .ref r), (1, .int (nI (i + 1)))] [] (fp_m L R I' J)) else ((pm_oV (pm_C mX5_exchange [.ref r, .int (nI i), .int (nI (fp_m0 i))] (fp_m L R I' J))).bind fun m2 => pm_res mX5_exchangePeople 2 [(0, .ref r), (1, .int (nI (i + 1)))] [] m2) := by
      rw [e_X5_exchangePeople_2, if_neg (fp_ge hi (by decide)), nd_9 (by omega), nd_27 (by omega), nd_3 (by omega), nq_3 (show i / 9 < 2 ^ 31 by omega), nq_3 (show i / 3 < 2 ^ 31 by omega), nq_3 (show i < 2 ^ 31 by omega), c_spot, fp_oI']
      simp only [Option.bind_some, k_T hr, cond_true, nI_1]
      rfl
    by_cases h : fp_m0 i ≤ i
    · refine ⟨I', ⟨fp_at_cg pa (fun j hj => ?_), pf⟩, ?_⟩
      · have hj2 := fp_m0_m0 hj
        unfold fp_ms fp_PI
        by_cases g : j < i ∨ fp_m0 j < i
        · rw [if_pos (decide_eq_true g), if_pos (decide_eq_true (by omega))]
        · rw [if_neg (by rw [decide_eq_true_eq]; exact g)]
          by_cases g2 : j < i + 1 ∨ fp_m0 j < i + 1
          · rw [if_pos (decide_eq_true g2)]
            rcases (by omega : j = i ∨ fp_m0 j = i) with e | e
            · rw [e] at g ⊢
              rw [show fp_m0 i = i by omega]
            · rw [e] at hj2
              rw [e, show j = i by omega]
          · rw [if_neg (by rw [decide_eq_true_eq]; exact g2)]
      · rw [step, if_pos (nI_le h (by omega))]
    · obtain ⟨I3, g1, g2, g3⟩ := c_exchange (L := L) (J := J) hR hr pa hi hm
      refine ⟨I3, ⟨fp_at_cg g2 (fun j hj => fp_ms_up rfl hmm ?_ ?_ ?_), fun x h1 h2 => by rw [g3 x h1 h2, pf x h1 h2]⟩, ?_⟩
      · exact decide_eq_false (by omega)
      · exact decide_eq_false (by rw [hmm]; omega)
      · have hj2 := fp_m0_m0 hj
        unfold fp_PI
        rw [Bool.eq_iff_iff]
        simp only [Bool.or_eq_true, decide_eq_true_eq]
        constructor
        · intro t1
          rcases (by omega : (j < i ∨ fp_m0 j < i) ∨ j = i ∨ fp_m0 j = i) with e | e | e
          · exact Or.inl (Or.inl e)
          · exact Or.inl (Or.inr e)
          · exact Or.inr (by rw [← e, hj2])
        · rintro ((t1 | t1) | t1)
          · omega
          · omega
          · right
            rw [t1, hmm]
            omega
      · rw [step, if_neg (nI_ge (by omega) (by omega)), g1, fp_oV', Option.bind_some]) (s := I) ⟨fp_at_cg hT (fun j _ => by
    unfold fp_ms fp_PI
    rw [if_neg (by rw [decide_eq_true_eq]; omega)]), fun _ _ _ => rfl⟩
  refine ⟨I2, ?_, fp_at_cg p2.1 (fun j hj => ?_), p2.2⟩
  · rw [e_X5_exchangePeople]
    refine (show pm_res mX5_exchangePeople 2 [(0, .ref r), (1, .int 0)] [] (fp_m L R I J) = _ from e2).trans ?_
    rw [e_X5_exchangePeople_2, if_pos (fp_le (Nat.le_refl _) (by decide))]
  · unfold fp_ms fp_PI fp_mv
    rw [if_pos (decide_eq_true (Or.inl hj)), if_pos hj]
theorem c_reverse (hR : fp_RK R) {r q A w : Nat} {c : Nat → Nat} (hr : fp_tb r) (hT : fp_at I r (q, A, w, c)) (hok : fp_okT (q, A, w, c)) (h0 : q ≠ 0) {p : Nat} (hp : p < 2) : ∃ I', pm_C mX5_reverseQuestions [.ref r, .int (nI p)] (fp_m L R I J) = some (.null, fp_m L R I' J) ∧ fp_at I' r (q, A, w, fp_mv (fp_mR p (q - 1)) c) ∧ ∀ x, x ≠ r → x ≠ r + 1 → I' x = I x := by
  obtain ⟨q1, q2, q3, q4, q5, q6, q7, q8⟩ := fp_okT_1 hok h0
  simp only at q1 q2 q3 q4
  let Q : Nat → (Nat → Nat → Int32) → Prop := fun n I' => fp_at I' r (q, A, w, fp_ms (fp_mR p (q - 1)) (fp_PR p (q - 1) A n) c) ∧ ∀ x, x ≠ r → x ≠ r + 1 → I' x = I x
  have cg : ∀ n n' I', Q n I' → (∀ j, fp_V p j < A → fp_E p j < A → (9 * fp_K p j + 3 * fp_V p j + fp_E p j < n ↔ 9 * fp_K p j + 3 * fp_V p j + fp_E p j < n')) → Q n' I' := by
    intro n n' I' h e
    refine ⟨fp_at_cg h.1 (fun j hj => ?_), h.2⟩
    unfold fp_ms
    rw [fp_PR_cg (e j)]
  have low : ∀ k a (I' : Nat → Nat → Int32), k < q → a < A → Q (9 * k + 3 * a) I' → ∃ I2, Q (9 * k + 3 * (a + 1)) I2 ∧ pm_res mX5_reverseQuestions 20 [(0, .ref r), (1, .int (nI p)), (2, .int (nI (q - 1))), (3, .int (nI k)), (4, .int (nI a))] [] (fp_m L R I' J) = pm_res mX5_reverseQuestions 20 [(0, .ref r), (1, .int (nI p)), (2, .int (nI (q - 1))), (3, .int (nI k)), (4, .int (nI (a + 1)))] [] (fp_m L R I2 J) := by
    intro k a I' hk ha hq
    obtain ⟨I2, p2, e2⟩ := fp_li0 (fun b (I' : Nat → Nat → Int32) => pm_res mX5_reverseQuestions 32 [(0, .ref r), (1, .int (nI p)), (2, .int (nI (q - 1))), (3, .int (nI k)), (4, .int (nI a)), (5, .int (nI b))] [] (fp_m L R I' J)) (fun b I' => Q (9 * k + 3 * a + b) I') A (fun b I' hb ⟨pa, pf⟩ => by
      have s1 := fp_sp_lt (p := p) (show 0 < 3 by omega) (show k < 3 by omega) (show a < 3 by omega) (show b < 3 by omega)
      have s2 := fp_sp_lt (p := p) (show q - 1 < 3 by omega) (show k < 3 by omega) (show a < 3 by omega) (show b < 3 by omega)
      by_cases hl : q - 1 = 0
      · refine ⟨I', ⟨fp_at_cg pa (fun j hj => ?_), pf⟩, ?_⟩
        · have : fp_mR p (q - 1) j = j := by
            obtain ⟨O, K, V, E, hO, hK, hV, hE, rfl⟩ := fp_spd p hj
            rw [fp_mR_at hO hK hV hE, hl]
            by_cases hO0 : O = 0
            · rw [hO0, fp_sw_a]
            · rw [fp_sw_n hO0 hO0]
          unfold fp_ms
          rw [this]
          simp
        · rw [e_X5_reverseQuestions_32, gi_T hr, pa.2.1, Option.bind_some, if_neg (nI_ge hb (by omega)), if_pos (by rw [hl]; decide), nI_1]
      · obtain ⟨I3, g1, g2, g3⟩ := c_exchange (L := L) (J := J) hR hr pa s1 s2
        refine ⟨I3, ⟨fp_at_cg g2 (fun j hj => fp_ms_up ?_ ?_ ?_ ?_ ?_), fun x h1 h2 => by rw [g3 x h1 h2, pf x h1 h2]⟩, ?_⟩
        · rw [fp_mR_at (by omega) (by omega) (by omega) (by omega), fp_sw_a]
        · rw [fp_mR_at (by omega) (by omega) (by omega) (by omega), fp_sw_b]
        · rw [fp_PR_at (by omega) (by omega) (by omega) (by omega)]; exact decide_eq_false (by omega)
        · rw [fp_PR_at (by omega) (by omega) (by omega) (by omega)]; exact decide_eq_false (by omega)
        · obtain ⟨O, K, V, E, hO, hK, hV, hE, rfl⟩ := fp_spd p hj
          rw [fp_PR_at hO hK hV hE, fp_PR_at hO hK hV hE, Bool.eq_iff_iff]
          simp only [Bool.or_eq_true, decide_eq_true_eq]
          rw [fp_spe hO hK hV hE (by omega) (by omega) (by omega) (by omega), fp_spe hO hK hV hE (by omega) (by omega) (by omega) (by omega)]
          clear s1 s2 g1 g2 g3 hj pa pf
          constructor
          · rintro ⟨t1, t2, t3, t4⟩
            rcases t1 with t1 | t1 <;> omega
          · rintro ((⟨t1, t2, t3, t4⟩ | ⟨t1, t2, t3, t4⟩) | ⟨t1, t2, t3, t4⟩)
            · exact ⟨t1, t2, t3, by omega⟩
            · exact ⟨Or.inl t1, by omega, by omega, by omega⟩
            · exact ⟨Or.inr t1, by omega, by omega, by omega⟩
        · rw [e_X5_reverseQuestions_32, gi_T hr, pa.2.1, Option.bind_some, if_neg (nI_ge hb (by omega)), if_neg (nI_nle (by omega) (by omega))]
          rw [show pm_C mX5_spotOf [.int (nI p), .int 0, .int (nI k), .int (nI a), .int (nI b)] (fp_m L R I' J) = _ from c_spotOf _ hp 0 k a b, fp_oI']
          simp only [c_spotOf _ hp, fp_oI', Option.bind_some, k_T hr, cond_true, g1, fp_oV', nI_1]) (s := I') hq
    refine ⟨I2, cg _ _ _ p2 (fun j g1 g2 => by omega), ?_⟩
    rw [e_X5_reverseQuestions_20, gi_T hr, hq.1.2.1, Option.bind_some, if_neg (nI_ge ha (by omega))]
    refine (show pm_res mX5_reverseQuestions 32 [(0, .ref r), (1, .int (nI p)), (2, .int (nI (q - 1))), (3, .int (nI k)), (4, .int (nI a)), (5, .int 0)] [] (fp_m L R I' J) = _ from e2).trans ?_
    rw [e_X5_reverseQuestions_32, gi_T hr, p2.1.2.1, Option.bind_some, if_pos (nI_le (Nat.le_refl _) (by show A < 2 ^ 31; omega)), nI_1]
  have mid : ∀ k (I' : Nat → Nat → Int32), k < q → Q (9 * k) I' → ∃ I2, Q (9 * (k + 1)) I2 ∧ pm_res mX5_reverseQuestions 9 [(0, .ref r), (1, .int (nI p)), (2, .int (nI (q - 1))), (3, .int (nI k))] [] (fp_m L R I' J) = pm_res mX5_reverseQuestions 9 [(0, .ref r), (1, .int (nI p)), (2, .int (nI (q - 1))), (3, .int (nI (k + 1)))] [] (fp_m L R I2 J) := by
    intro k I' hk hq
    obtain ⟨I2, p2, e2⟩ := fp_li0 (fun a (I' : Nat → Nat → Int32) => pm_res mX5_reverseQuestions 20 [(0, .ref r), (1, .int (nI p)), (2, .int (nI (q - 1))), (3, .int (nI k)), (4, .int (nI a))] [] (fp_m L R I' J)) (fun a I' => Q (9 * k + 3 * a) I') A (fun a I' ha h => low k a I' hk ha h) (s := I') hq
    refine ⟨I2, cg _ _ _ p2 (fun j g1 g2 => by have := fp_VE p j; omega), ?_⟩
    rw [e_X5_reverseQuestions_9, gi_T hr, hq.1.1, Option.bind_some, if_neg (nI_ge hk (by omega))]
    refine (show pm_res mX5_reverseQuestions 20 [(0, .ref r), (1, .int (nI p)), (2, .int (nI (q - 1))), (3, .int (nI k)), (4, .int 0)] [] (fp_m L R I' J) = _ from e2).trans ?_
    rw [e_X5_reverseQuestions_20, gi_T hr, p2.1.2.1, Option.bind_some, if_pos (nI_le (Nat.le_refl _) (by show A < 2 ^ 31; omega)), nI_1]
  obtain ⟨I2, p2, e2⟩ := fp_li0 (fun k (I' : Nat → Nat → Int32) => pm_res mX5_reverseQuestions 9 [(0, .ref r), (1, .int (nI p)), (2, .int (nI (q - 1))), (3, .int (nI k))] [] (fp_m L R I' J)) (fun k I' => Q (9 * k) I') q mid (s := I) ⟨fp_at_cg hT (fun j _ => by
    unfold fp_ms fp_PR
    rw [decide_eq_false (by rintro ⟨-, -, -, h⟩; omega)]
    rfl), fun _ _ _ => rfl⟩
  refine ⟨I2, ?_, fp_at_cg p2.1 (fun j hj => ?_), p2.2⟩
  · rw [e_X5_reverseQuestions, gi_T hr, hT.1, Option.bind_some]
    show pm_res mX5_reverseQuestions 9 [(0, .ref r), (1, .int (nI p)), (2, .int (nI q - 1)), (3, .int 0)] [] (fp_m L R I J) = _
    rw [ns_1 (by omega)]
    refine (show pm_res mX5_reverseQuestions 9 [(0, .ref r), (1, .int (nI p)), (2, .int (nI (q - 1))), (3, .int 0)] [] (fp_m L R I J) = _ from e2).trans ?_
    rw [e_X5_reverseQuestions_9, gi_T hr, p2.1.1, Option.bind_some, if_pos (nI_le (Nat.le_refl _) (by show q < 2 ^ 31; omega))]
  · unfold fp_ms fp_mv
    rw [if_pos hj]
    obtain ⟨O, K, V, E, hO, hK, hV, hE, rfl⟩ := fp_spd p hj
    rw [fp_PR_at hO hK hV hE]
    by_cases h : (O = 0 ∨ O = q - 1) ∧ V < A ∧ E < A ∧ 9 * K + 3 * V + E < 9 * q
    · rw [if_pos (decide_eq_true h)]
    · rw [if_neg (by rw [decide_eq_true_eq]; exact h), fp_mR_at hO hK hV hE]
      by_cases e1 : O = 0 ∨ O = q - 1
      · have out : ∀ O', O' < 3 → c (fp_sp p O' K V E) = 0 := fun O' hO' => q8 _ (fun g => by
          rw [fp_spin hO' hK hV hE] at g
          exact h ⟨e1, g.2.2.1, g.2.2.2, by omega⟩)
        rw [out O hO, out _ (fp_sw_lt (by omega) (by omega) hO)]
      · rw [fp_sw_n (fun g => e1 (Or.inl g)) (fun g => e1 (Or.inr g))]
/-- cells moved, of rows of questions that are, below n -/
def fp_mq (m : Nat → Nat) (q n : Nat) (c : Nat → Nat) (j : Nat) : Nat := if j < n ∧ j / 27 < q ∧ j / 9 % 3 < q then c (m j) else c j
theorem fp_mq_up {m c : Nat → Nat} {q x y k j : Nat} (hx : x < q) (hy : y < q) (hq : q ≤ 3) (hk : k < 9) : va_up (fp_mq m q (27 * x + 9 * y + k) c) (27 * x + 9 * y + k) (c (m (27 * x + 9 * y + k))) j = fp_mq m q (27 * x + 9 * y + (k + 1)) c j := by
  unfold va_up
  by_cases e : j = 27 * x + 9 * y + k
  · rw [if_pos e]
    unfold fp_mq
    rw [if_pos (by omega), e]
  · rw [if_neg e]
    unfold fp_mq
    exact fp_ifc (by omega)
theorem fp_mT_lt {w l j : Nat} (hl : l < 3) (hj : j < 81) : fp_mT w l j < 81 := by
  unfold fp_mT
  by_cases h : w = 0
  · rw [if_pos h]; exact fp_m0_lt hj
  · rw [if_neg h]
    obtain ⟨O, K, V, E, hO, hK, hV, hE, rfl⟩ := fp_spd (w - 1) hj
    rw [fp_mR_at hO hK hV hE]
    exact fp_sp_lt (fp_sw_lt (by omega) hl hO) hK hV hE
theorem fp_mT_in {w q A j : Nat} (h1 : 1 ≤ q) (hq : q ≤ 3) (hj : j < 81) (h : fp_in q A (fp_mT w (q - 1) j)) : fp_in q A j := by
  unfold fp_mT at h
  by_cases hw : w = 0
  · rw [if_pos hw] at h
    obtain ⟨x, y, a, b, hx, hy, ha, hb, rfl⟩ := fp_jd hj
    rw [fp_m0_at hy ha hb] at h
    obtain ⟨e1, e2, e3, e4, -⟩ := fp_jc (x := x) hy ha hb
    obtain ⟨d1, d2, d3, d4, -⟩ := fp_jc (x := y) hx hb ha
    unfold fp_in at *
    rw [d1, d2, d3, d4] at h
    rw [e1, e2, e3, e4]
    exact ⟨hj, h.2.2.1, h.2.1, h.2.2.2.2, h.2.2.2.1⟩
  · rw [if_neg hw] at h
    obtain ⟨O, K, V, E, hO, hK, hV, hE, rfl⟩ := fp_spd (w - 1) hj
    rw [fp_mR_at hO hK hV hE, fp_spin (fp_sw_lt (by omega) (by omega) hO) hK hV hE] at h
    rw [fp_spin hO hK hV hE]
    exact ⟨fp_sw_lt' (by omega) (by omega) h.1, h.2⟩
theorem fp_sw_rev {l x : Nat} (hl : l ≤ 2) (hx : x ≤ l) : fp_sw 0 l x = l - x := by
  unfold fp_sw
  by_cases h : x = 0
  · rw [if_pos h]; omega
  · rw [if_neg h]
    by_cases h2 : x = l
    · rw [if_pos h2]; omega
    · rw [if_neg h2]; omega
theorem r_turnStep (hR : fp_RK R) {t w l x y k : Nat} (hw : w < 3) (hl : l ≤ 2) (hx : x ≤ l) (hy : y ≤ l) (hk : k < 9) : pm_res mX7_turn 71 [(0, .ref 45), (1, .int (nI t)), (2, .int (nI w)), (5, .int (nI l)), (6, .int (nI x)), (7, .int (nI y)), (8, .int (nI k))] [] (fp_m L R I J) = pm_res mX7_turn 144 [(0, .ref 45), (1, .int (nI t)), (2, .int (nI w)), (5, .int (nI l)), (6, .int (nI x)), (7, .int (nI y)), (8, .int (nI k)), (9, .int (nI (k / 3))), (10, .int (nI (k % 3)))] [.int (nI (fp_mT w l (27 * x + 9 * y + k)))] (fp_m L R I J) := by
  have ek : 27 * x + 9 * y + k = 27 * x + 9 * y + 3 * (k / 3) + k % 3 := by omega
  rw [e_X7_turn_71, if_neg (fp_ge hk (by decide)), nd_3 (by omega), nq_3 (by omega), ek]
  unfold fp_mT
  rcases (by omega : w = 0 ∨ w = 1 ∨ w = 2) with rfl | rfl | rfl
  · rw [if_pos (show nI 0 = 0 from rfl), if_pos rfl, r_place, fp_oI', fp_m0_at (by omega) (by omega) (by omega)]
    rfl
  · rw [if_neg (show ¬ nI 1 = 0 by decide), if_pos (show nI 1 = 1 from rfl), if_neg (by decide), pk_sub hx, r_place, fp_oI']
    have := fp_mR_at (p := 0) (l := l) (O := x) (K := y) (V := k / 3) (E := k % 3) (by omega) (by omega) (by omega) (by omega)
    rw [fp_sw_rev hl hx] at this
    unfold fp_sp at this
    rw [if_pos rfl, if_pos rfl] at this
    rw [show (1 : Nat) - 1 = 0 from rfl, this]
    rfl
  · rw [if_neg (show ¬ nI 2 = 0 by decide), if_neg (show ¬ nI 2 = 1 by decide), if_neg (by decide), pk_sub hy, r_place, fp_oI']
    have := fp_mR_at (p := 1) (l := l) (O := y) (K := x) (V := k % 3) (E := k / 3) (by omega) (by omega) (by omega) (by omega)
    rw [fp_sw_rev hl hy] at this
    unfold fp_sp at this
    rw [if_neg (by decide), if_neg (by decide)] at this
    rw [show (2 : Nat) - 1 = 1 from rfl, this]
    rfl
theorem r_turnLoop (hR : fp_RK R) {t w : Nat} (ht : t < 8) (hw : w < 3) {I0 : Nat → Nat → Int32} {q A W : Nat} {c : Nat → Nat} (q1 : 1 ≤ q) (q2 : q ≤ 3) (q8 : ∀ j, ¬ fp_in q A j → c j = 0) (h : fp_rt I0 I t (q, A, W, c)) (hJ : ∀ j, j < 81 → J 50 j = lN (c j)) : ∃ I', pm_res mX7_turn 51 [(0, .ref 45), (1, .int (nI t)), (2, .int (nI w)), (5, .int (nI (q - 1))), (6, .int 0)] [] (fp_m L R I J) = some (.long 0, fp_m L R I' J) ∧ fp_rt I0 I' t (q, A, W, fp_mv (fp_mT w (q - 1)) c) := by
  let Q : Nat → (Nat → Nat → Int32) → Prop := fun n I' => fp_rt I0 I' t (q, A, W, fp_mq (fp_mT w (q - 1)) q n c)
  have low : ∀ x y (I' : Nat → Nat → Int32), x < q → y < q → Q (27 * x + 9 * y) I' → ∃ I2, Q (27 * x + 9 * (y + 1)) I2 ∧ pm_res mX7_turn 61 [(0, .ref 45), (1, .int (nI t)), (2, .int (nI w)), (5, .int (nI (q - 1))), (6, .int (nI x)), (7, .int (nI y))] [] (fp_m L R I' J) = pm_res mX7_turn 61 [(0, .ref 45), (1, .int (nI t)), (2, .int (nI w)), (5, .int (nI (q - 1))), (6, .int (nI x)), (7, .int (nI (y + 1)))] [] (fp_m L R I2 J) := by
    intro x y I' hx hy hq
    obtain ⟨I2, p2, e2⟩ := fp_li0 (fun k (I' : Nat → Nat → Int32) => pm_res mX7_turn 71 [(0, .ref 45), (1, .int (nI t)), (2, .int (nI w)), (5, .int (nI (q - 1))), (6, .int (nI x)), (7, .int (nI y)), (8, .int (nI k))] [] (fp_m L R I' J)) (fun k I' => Q (27 * x + 9 * y + k) I') 9 (fun k I' hk pp => by
      have hlt := fp_mT_lt (w := w) (l := q - 1) (j := 27 * x + 9 * y + k) (by omega) (by omega)
      refine ⟨_, fp_rt_cg (fp_rt_up ht (j := 27 * x + 9 * y + k) (v := c (fp_mT w (q - 1) (27 * x + 9 * y + k))) (by omega) pp) (fun j hj => fp_mq_up hx hy q2 hk), ?_⟩
      rw [r_turnStep hR hw (by omega) (by omega) (by omega) hk, e_X7_turn_144]
      simp only [gr_45_0 hR, gr_45_7 hR, Option.bind_some, r_place, fp_oI']
      rw [ai_50 hlt, Option.bind_some, hJ _ hlt, lN_i, nm_84, na_3, nI_add, show 27 * x + 9 * y + 3 * (k / 3) + k % 3 = 27 * x + 9 * y + k by omega, si_46 (by omega), Option.bind_some, nI_1]) (s := I') hq
    refine ⟨I2, p2, ?_⟩
    rw [e_X7_turn_61, if_neg (nI_nlt (by omega) (by omega))]
    refine (show pm_res mX7_turn 71 [(0, .ref 45), (1, .int (nI t)), (2, .int (nI w)), (5, .int (nI (q - 1))), (6, .int (nI x)), (7, .int (nI y)), (8, .int 0)] [] (fp_m L R I' J) = _ from e2).trans ?_
    rw [e_X7_turn_71, if_pos (fp_le (Nat.le_refl _) (by decide)), nI_1]
  have mid : ∀ x (I' : Nat → Nat → Int32), x < q → Q (27 * x) I' → ∃ I2, Q (27 * (x + 1)) I2 ∧ pm_res mX7_turn 51 [(0, .ref 45), (1, .int (nI t)), (2, .int (nI w)), (5, .int (nI (q - 1))), (6, .int (nI x))] [] (fp_m L R I' J) = pm_res mX7_turn 51 [(0, .ref 45), (1, .int (nI t)), (2, .int (nI w)), (5, .int (nI (q - 1))), (6, .int (nI (x + 1)))] [] (fp_m L R I2 J) := by
    intro x I' hx hq
    obtain ⟨I2, p2, e2⟩ := fp_li0 (fun y (I' : Nat → Nat → Int32) => pm_res mX7_turn 61 [(0, .ref 45), (1, .int (nI t)), (2, .int (nI w)), (5, .int (nI (q - 1))), (6, .int (nI x)), (7, .int (nI y))] [] (fp_m L R I' J)) (fun y I' => Q (27 * x + 9 * y) I') q (fun y I' hy h => low x y I' hx hy h) (s := I') hq
    refine ⟨I2, fp_rt_cg p2 (fun j hj => ?_), ?_⟩
    · unfold fp_mq
      exact fp_ifc (by omega)
    rw [e_X7_turn_51, if_neg (nI_nlt (by omega) (by omega))]
    refine (show pm_res mX7_turn 61 [(0, .ref 45), (1, .int (nI t)), (2, .int (nI w)), (5, .int (nI (q - 1))), (6, .int (nI x)), (7, .int 0)] [] (fp_m L R I' J) = _ from e2).trans ?_
    rw [e_X7_turn_61, if_pos (nI_lt (by omega) (by omega)), nI_1]
  obtain ⟨I2, p2, e2⟩ := fp_li0 (fun x (I' : Nat → Nat → Int32) => pm_res mX7_turn 51 [(0, .ref 45), (1, .int (nI t)), (2, .int (nI w)), (5, .int (nI (q - 1))), (6, .int (nI x))] [] (fp_m L R I' J)) (fun x I' => Q (27 * x) I') q mid (s := I) (fp_rt_cg h (fun j _ => (if_neg (fun g => absurd g.1 (by omega))).symm))
  refine ⟨I2, ?_, fp_rt_cg p2 (fun j hj => ?_)⟩
  · refine (show pm_res mX7_turn 51 [(0, .ref 45), (1, .int (nI t)), (2, .int (nI w)), (5, .int (nI (q - 1))), (6, .int 0)] [] (fp_m L R I J) = _ from e2).trans ?_
    rw [e_X7_turn_51, if_pos (nI_lt (by omega) (by omega))]
  · unfold fp_mq fp_mv
    rw [if_pos hj]
    by_cases g : j < 27 * q ∧ j / 27 < q ∧ j / 9 % 3 < q
    · rw [if_pos g]
    · rw [if_neg g]
      have out : ¬ fp_in q A j := fun ⟨g1, g2, g3, _⟩ => g ⟨by omega, g2, g3⟩
      rw [q8 j out, q8 _ (fun g => out (fp_mT_in q1 q2 hj g))]
theorem b_turn (hR : fp_RK R) (t w : Int32) : fp_Both L R mX6_turn mX7_turn [.int t, .int w] := by
  intro S hok
  by_cases h1 : 0 ≤ t.toInt ∧ t.toInt < 8
  case neg =>
    refine ⟨S, pm_BAD, hok, fp_Cs.same fun I J hC => ?_, fp_Ms.same fun I J hM => ?_⟩
    · rw [e_X6_turn, c_isT0 _ h1, fp_oI']; rfl
    · rw [e_X7_turn, k_45, cond_true, r_asked0 h1, fp_oL']; rfl
  obtain ⟨t', ht, rfl⟩ := fp_nat (k := 8) h1.1 h1.2 (by decide)
  have hT := fp_okT_q (hok.1 t' ht)
  by_cases h0 : (S.1 t').1 = 0
  · refine ⟨S, pm_NO, hok, fp_Cs.same fun I J hC => ?_, fp_Ms.same fun I J hM => ?_⟩
    · rw [e_X6_turn]
      simp only [c_isT _ ht, fp_oI', Option.bind_some, fp_10, if_false, gr_1_0 hR, ar_2 hR ht, k_T (tb_t ht), cond_true, c_isMissing (tb_t ht) (hC.1 t' ht) h0]
    · rw [e_X7_turn, k_45, cond_true, r_asked1 hR ht (fp_mt_of hM ht) h0, fp_oL']; rfl
  obtain ⟨q1, q2, q3, q4, q5, q6, q7, q8⟩ := fp_okT_1 (hok.1 t' ht) h0
  by_cases h2 : 0 ≤ w.toInt ∧ w.toInt < 3
  case neg =>
    refine ⟨S, pm_BAD, hok, fp_Cs.same fun I J hC => ?_, fp_Ms.same fun I J hM => ?_⟩
    · rw [e_X6_turn]
      simp only [c_isT _ ht, fp_oI', Option.bind_some, fp_10, if_false, gr_1_0 hR, ar_2 hR ht, k_T (tb_t ht), cond_true, c_isMissing0 (tb_t ht) (hC.1 t' ht) h0 hT.1, if_true]
      by_cases h3 : w < 0
      · rw [if_pos h3]
      · rw [if_neg h3, if_neg]
        simp only [Int32.lt_iff_toInt_lt, Int32.le_iff_toInt_le] at h3 ⊢
        simp at h3 ⊢
        omega
    · rw [e_X7_turn, k_45, cond_true, r_asked2 hR ht (fp_mt_of hM ht) h0 hT.1, fp_oL']
      simp only [Option.bind_some, fp_cmp_eq, if_true]
      rw [r_isIn0 _ (fp_isIn0 (n := 2) (by decide) h2), fp_oI']
      rfl
  obtain ⟨w', hw, rfl⟩ := fp_nat (k := 3) h2.1 h2.2 (by decide)
  have hin := fp_isIn1 (w := w') (k := 2) (by omega) (show (w' : Int) ≤ 2 by omega)
  refine ⟨fp_chg S t' ((S.1 t').1, (S.1 t').2.1, (S.1 t').2.2.1, fp_mv (fp_mT w' ((S.1 t').1 - 1)) (S.1 t').2.2.2), 0, fp_chg_ok hok ht (fp_mv_ok (hok.1 t' ht) h0 (fun j hj g => fp_mT_in q1 q2 hj g)), fun I J hC => ?_, fun I J hM => ?_⟩
  · obtain ⟨I1, c1, c2, c3⟩ := c_changed (L := L) (J := J) hR hok hC ht
    have hat : fp_at I1 (3 + 2 * t') (S.1 t') := fp_at_cong (hC.1 t' ht) (c2 _ (by omega)) (c2 _ (by omega))
    have eC : pm_C mX6_turn [.ref 1, .int (nI t'), .int (nI w')] (fp_m L R I J) = if nI w' = 0 then ((pm_oV (pm_C mX5_exchangePeople [.ref (3 + 2 * t')] (fp_m L R I1 J))).bind fun m6 => some (.long 0, m6)) else ((pm_oV (pm_C mX5_reverseQuestions [.ref (3 + 2 * t'), .int (nI w' - 1)] (fp_m L R I1 J))).bind fun m7 => some (.long 0, m7)) := by
      rw [e_X6_turn]
      simp only [c_isT _ ht, fp_oI', Option.bind_some, fp_10, if_false, gr_1_0 hR, ar_2 hR ht, k_T (tb_t ht), cond_true, c_isMissing0 (tb_t ht) (hC.1 t' ht) h0 hT.1, if_true]
      rw [if_neg (nI_pos (by omega)), if_pos (fp_leR (by omega) (by decide)), k_1, cond_true, c1, fp_oR']
      simp only [Option.bind_some, k_T (tb_t ht), cond_true]
    by_cases hw0 : w' = 0
    · obtain ⟨I2, d1, d2, d3⟩ := c_exPeople (L := L) (I := I1) (J := J) hR (tb_t ht) hat
      rw [show fp_mT w' ((S.1 t').1 - 1) = fp_m0 from if_pos hw0]
      obtain ⟨f1, f2⟩ := c3 _ I2 d2 (fun i g1 g2 _ => d3 i g1 g2)
      refine ⟨I2, J, ?_, f1, f2⟩
      rw [eC, if_pos (fp_eqR hw0), d1, fp_oV']
      rfl
    · obtain ⟨I2, d1, d2, d3⟩ := c_reverse (L := L) (I := I1) (J := J) hR (tb_t ht) hat (hok.1 t' ht) h0 (p := w' - 1) (by omega)
      rw [show fp_mT w' ((S.1 t').1 - 1) = fp_mR (w' - 1) ((S.1 t').1 - 1) from if_neg hw0]
      obtain ⟨f1, f2⟩ := c3 _ I2 d2 (fun i g1 g2 _ => d3 i g1 g2)
      refine ⟨I2, J, ?_, f1, f2⟩
      rw [eC, if_neg (fp_ne hw0 (by omega) (by decide)), ns_1 (by omega), d1, fp_oV']
      rfl
  · obtain ⟨I1, c1, c2, c3, c4⟩ := r_kept (L := L) (J := J) hR hok hM
    have hmt : fp_mt I1 t' (S.1 t') := fun o ho => by rw [c2 46 (by decide) (by decide)]; exact fp_mt_of hM ht o ho
    obtain ⟨J2, d1, d2⟩ := r_takeAside (L := L) (I := I1) (J := J) hR ht hmt (fun j => Nat.lt_of_le_of_lt (Nat.le_trans (hT.2.2.2 j) hT.2.2.1) (by decide))
    obtain ⟨I3, g1, g2⟩ := r_turnLoop (L := L) (I := I1) (J := J2) hR ht hw q1 q2 q8 (fp_rt_rf hmt) d2
    obtain ⟨f1, f2⟩ := c4 t' ht _ I3 g2
    refine ⟨I3, J2, ?_, f1, f2⟩
    rw [e_X7_turn, k_45, cond_true, r_asked2 hR ht (fp_mt_of hM ht) h0 hT.1, fp_oL']
    simp only [Option.bind_some, fp_cmp_eq, if_true, r_isIn1 _ hin, fp_oI', fp_10, if_false, k_45, cond_true, c1, fp_oV', d1, r_q hR ht hmt]
    rw [ns_1 (by omega)]
    exact g1
end FpTurn
