/-! SURE tables and their numbers -/
theorem fp_sm_two {f : Nat → Nat} : ∀ {n j k : Nat}, j < n → k < n → j ≠ k → f j + f k ≤ fp_sm f n
  | 0, _, _, h, _, _ => absurd h (Nat.not_lt_zero _)
  | n + 1, j, k, h1, h2, h3 => by
    have one : ∀ {m i : Nat}, i < m → f i ≤ fp_sm f m := by
      intro m
      induction m with
      | zero => intro i hi; exact absurd hi (Nat.not_lt_zero _)
      | succ m ih =>
        intro i hi
        rw [fp_sm]
        by_cases e : i = m
        · subst e; omega
        · have := ih (show i < m by omega); omega
    rw [fp_sm]
    by_cases e1 : j = n
    · subst e1
      have := one (show k < j by omega)
      omega
    · by_cases e2 : k = n
      · subst e2
        have := one (show j < k by omega)
        omega
      · have := fp_sm_two (f := f) (show j < n by omega) (show k < n by omega) h3
        omega
def fp_su (T : fp_T) (f g : Nat) : Prop := ∀ x, x < T.1 → ∀ y, y < T.1 → T.2.2.2 (27 * x + 9 * y + 3 * fp_dg T.2.1 f x + fp_dg T.2.1 g y) = T.2.2.1
def fp_sr (T : fp_T) (n : Nat) : Prop := fp_pr T ∧ n < T.2.1 ^ (2 * T.1) ∧ fp_su T (n / T.2.1 ^ T.1) (n % T.2.1 ^ T.1)
/-- what sureAnswers finds -/
def fp_sa (T : fp_T) (x y k : Nat) : Option Nat := if T.2.2.2 (27 * x + 9 * y + k) = T.2.2.1 then some k else none
theorem fp_f1_at {P : Nat → Option Nat} {n k v : Nat} (hk : k < n) (h1 : ∀ j, j < k → P j = none) (h2 : P k = some v) : fp_f1 P n = some v := by
  induction n with
  | zero => exact absurd hk (Nat.not_lt_zero _)
  | succ n ih =>
    unfold fp_f1
    by_cases e : k = n
    · subst e
      rw [fp_f1_none h1]
      exact h2
    · rw [ih (by omega)]
theorem fp_f1_in {P : Nat → Option Nat} : ∀ {n v : Nat}, fp_f1 P n = some v → ∃ k, k < n ∧ P k = some v
  | 0, _, h => by cases h
  | n + 1, v, h => by
    unfold fp_f1 at h
    split at h
    · rename_i u e
      cases h
      obtain ⟨k, h1, h2⟩ := fp_f1_in e
      exact ⟨k, by omega, h2⟩
    · exact ⟨n, by omega, h⟩
section FpSure
variable {L : Nat} {R : Nat → Nat → Option Nat} {I : Nat → Nat → Int32} {J : Nat → Nat → Int64}
theorem fp_okT_1 {T : fp_T} (hok : fp_okT T) (h0 : T.1 ≠ 0) : 1 ≤ T.1 ∧ T.1 ≤ 3 ∧ 2 ≤ T.2.1 ∧ T.2.1 ≤ 3 ∧ 1 ≤ T.2.2.1 ∧ T.2.2.1 ≤ 1000000 ∧ (∀ j, T.2.2.2 j ≤ T.2.2.1) ∧ ∀ j, ¬ fp_in T.1 T.2.1 j → T.2.2.2 j = 0 := by
  rcases hok with q | q
  · exact absurd q.1 h0
  · exact q
theorem fp_sa_uniq {T : fp_T} (hok : fp_okT T) (h0 : T.1 ≠ 0) {x y k : Nat} (hk : k < 9) (hs : fp_rs T x y = T.2.2.1) (hc : T.2.2.2 (27 * x + 9 * y + k) = T.2.2.1) {j : Nat} (hj : j < 9) (hne : j ≠ k) : T.2.2.2 (27 * x + 9 * y + j) ≠ T.2.2.1 := by
  intro q
  have := fp_sm_two (f := fun k => T.2.2.2 (27 * x + 9 * y + k)) hj hk hne
  have e : fp_sm (fun k => T.2.2.2 (27 * x + 9 * y + k)) 9 = T.2.2.1 := hs
  have := (fp_okT_1 hok h0).2.2.2.2.1
  omega
theorem fp_su_sa {T : fp_T} (hok : fp_okT T) (h0 : T.1 ≠ 0) (hp : fp_pr T) {f g : Nat} (hs : fp_su T f g) {x y : Nat} (hx : x < T.1) (hy : y < T.1) : fp_f1 (fp_sa T x y) 9 = some (3 * fp_dg T.2.1 f x + fp_dg T.2.1 g y) := by
  have h := fp_okT_1 hok h0
  have d1 := fp_dg_lt (n := f) (x := x) h.2.2.1
  have d2 := fp_dg_lt (n := g) (x := y) h.2.2.1
  have hk : 3 * fp_dg T.2.1 f x + fp_dg T.2.1 g y < 9 := by omega
  have hc : T.2.2.2 (27 * x + 9 * y + (3 * fp_dg T.2.1 f x + fp_dg T.2.1 g y)) = T.2.2.1 := by rw [← Nat.add_assoc]; exact hs x hx y hy
  refine fp_f1_at hk (fun j hj => ?_) ?_
  · unfold fp_sa
    rw [if_neg (fp_sa_uniq hok h0 hk (hp x hx y hy) hc (by omega) (by omega))]
  · unfold fp_sa
    rw [if_pos hc]
theorem fp_dg_step (a f j : Nat) : f / a ^ (j + 1) * a + fp_dg a f j = f / a ^ j := by
  unfold fp_dg
  rw [Nat.pow_succ, ← Nat.div_div_eq_div_mul, Nat.mul_comm]
  exact Nat.div_add_mod _ _
/-- equal digits, equal numbers -/
theorem fp_dg_inj {a f g : Nat} : ∀ {q : Nat}, f < a ^ q → g < a ^ q → (∀ x, x < q → fp_dg a f x = fp_dg a g x) → f = g := by
  intro q hf hg h
  have key : ∀ j, j ≤ q → f / a ^ (q - j) = g / a ^ (q - j) := by
    intro j
    induction j with
    | zero => intro _; rw [Nat.sub_zero, Nat.div_eq_of_lt hf, Nat.div_eq_of_lt hg]
    | succ j ih =>
      intro hj
      have e : q - j = (q - (j + 1)) + 1 := by omega
      have := ih (by omega)
      rw [e] at this
      rw [← fp_dg_step a f (q - (j + 1)), ← fp_dg_step a g (q - (j + 1)), this, h _ (by omega)]
  have := key q (Nat.le_refl _)
  simpa using this
theorem fp_sr_uniq {T : fp_T} (hok : fp_okT T) (h0 : T.1 ≠ 0) {n m : Nat} (hn : fp_sr T n) (hm : fp_sr T m) : n = m := by
  have h := fp_okT_1 hok h0
  obtain ⟨n1, n2, n3⟩ := hn
  obtain ⟨m1, m2, m3⟩ := hm
  have hpos : 0 < T.2.1 ^ T.1 := Nat.pow_pos (by omega)
  have he : ∀ x, x < T.1 → ∀ y, y < T.1 → 3 * fp_dg T.2.1 (n / T.2.1 ^ T.1) x + fp_dg T.2.1 (n % T.2.1 ^ T.1) y = 3 * fp_dg T.2.1 (m / T.2.1 ^ T.1) x + fp_dg T.2.1 (m % T.2.1 ^ T.1) y := by
    intro x hx y hy
    have e1 := fp_su_sa hok h0 n1 n3 hx hy
    have e2 := fp_su_sa hok h0 m1 m3 hx hy
    rw [e1] at e2
    exact Option.some.inj e2
  have d : ∀ k x, fp_dg T.2.1 k x < 3 := fun k x => by have := fp_dg_lt (n := k) (x := x) h.2.2.1; omega
  rw [show 2 * T.1 = T.1 + T.1 by omega, Nat.pow_add] at n2 m2
  have f : n / T.2.1 ^ T.1 = m / T.2.1 ^ T.1 := fp_dg_inj (a := T.2.1) (q := T.1) (Nat.div_lt_of_lt_mul n2) (Nat.div_lt_of_lt_mul m2) (fun x hx => by
    have := he x hx 0 (by omega)
    have := d (n % T.2.1 ^ T.1) 0
    have := d (m % T.2.1 ^ T.1) 0
    omega)
  have g : n % T.2.1 ^ T.1 = m % T.2.1 ^ T.1 := fp_dg_inj (a := T.2.1) (q := T.1) (Nat.mod_lt _ hpos) (Nat.mod_lt _ hpos) (fun y hy => by
    have := he 0 (by omega) y hy
    have := d (n % T.2.1 ^ T.1) y
    have := d (m % T.2.1 ^ T.1) y
    omega)
  rw [← Nat.div_add_mod n (T.2.1 ^ T.1), ← Nat.div_add_mod m (T.2.1 ^ T.1), f, g]
theorem c_sureAnswers (hR : fp_RK R) {r : Nat} (hr : fp_tb r) {T : fp_T} (hT : fp_at I r T) (hok : fp_okT T) {x y : Nat} (hx : x < 3) (hy : y < 3) : pm_C mX5_sureAnswers [.ref r, .int (nI x), .int (nI y)] (fp_m L R I J) = match fp_f1 (fp_sa T x y) 9 with
    | some v => some (.int (nI v), fp_m L R I J)
    | none => some (.int (-1), fp_m L R I J) := by
  have hq := fp_okT_q hok
  rw [e_X5_sureAnswers]
  have hs : pm_C mX6_spot [.int (nI x), .int (nI y), .int 0, .int 0] (fp_m L R I J) = some (.int (nI (27 * x + 9 * y)), fp_m L R I J) := c_spot _ x y 0 0
  rw [hs, fp_oI', Option.bind_some]
  have l := fp_lpo (fun i => pm_res mX5_sureAnswers 11 [(0, .ref r), (3, .int (nI (27 * x + 9 * y))), (4, .int (nI i))] [] (fp_m L R I J)) (fp_sa T x y) (fun v => some (.int (nI v), fp_m L R I J)) (a := 0) (n := 9) (by omega) (fun i hi => absurd hi (Nat.not_lt_zero i)) (fun i _ hi => by
    rw [e_X5_sureAnswers_11, if_neg (fp_ge hi (by decide))]
    simp only [gr_T hR hr, Option.bind_some, nI_add, gi_T hr, hT.2.2.1, nI_1]
    rw [ai_T hr (by omega), hT.2.2.2 _ (by omega), Option.bind_some]
    have b1 := hq.2.2.2 (27 * x + 9 * y + i)
    have b2 := hq.2.2.1
    unfold fp_sa
    by_cases e : T.2.2.2 (27 * x + 9 * y + i) = T.2.2.1
    · rw [if_pos (by rw [e]), if_pos e]
    · rw [if_neg (by rw [nI_eq (by omega) (by omega)]; exact e), if_neg e])
  refine l.trans ?_
  cases fp_f1 (fp_sa T x y) 9 with
  | some v => rfl
  | none =>
    show pm_res mX5_sureAnswers 11 _ _ _ = _
    rw [e_X5_sureAnswers_11, if_pos (fp_le (Nat.le_refl _) (by decide))]
theorem c_isSure (hR : fp_RK R) {r : Nat} (hr : fp_tb r) {T : fp_T} (hT : fp_at I r T) (hok : fp_okT T) (h0 : T.1 ≠ 0) {f g : Nat} (hf : f < 2 ^ 31) (hg : g < 2 ^ 31) : ((fp_pr T ∧ fp_su T f g) → pm_C mX5_isSure [.ref r, .int (nI f), .int (nI g)] (fp_m L R I J) = some (.int 1, fp_m L R I J)) ∧ (¬ (fp_pr T ∧ fp_su T f g) → pm_C mX5_isSure [.ref r, .int (nI f), .int (nI g)] (fp_m L R I J) = some (.int 0, fp_m L R I J)) := by
  classical
  have h := fp_okT_1 hok h0
  have inner : ∀ x, x < T.1 → pm_res mX5_isSure 2 [(0, .ref r), (1, .int (nI f)), (2, .int (nI g)), (3, .int (nI x))] [] (fp_m L R I J) = if (¬ ∀ y, y < T.1 → T.2.2.2 (27 * x + 9 * y + 3 * fp_dg T.2.1 f x + fp_dg T.2.1 g y) = T.2.2.1 ∧ fp_rs T x y = T.2.2.1) then some (.int 0, fp_m L R I J) else pm_res mX5_isSure 2 [(0, .ref r), (1, .int (nI f)), (2, .int (nI g)), (3, .int (nI (x + 1)))] [] (fp_m L R I J) := by
    intro x hx
    rw [e_X5_isSure_2]
    simp only [gi_T hr, hT.1, hT.2.1, Option.bind_some, c_digit _ hf h.2.2.1 (show T.2.1 < 2 ^ 31 by omega) (show x < 2 ^ 31 by omega), fp_oI']
    rw [if_neg (nI_ge hx (by omega))]
    have d1 := fp_dg_lt (n := f) (x := x) h.2.2.1
    have loop := fp_lpx (fun y => pm_res mX5_isSure 24 [(0, .ref r), (1, .int (nI f)), (2, .int (nI g)), (3, .int (nI x)), (4, .int (nI (fp_dg T.2.1 f x))), (5, .int (nI y))] [] (fp_m L R I J)) (fun y => ¬ (T.2.2.2 (27 * x + 9 * y + 3 * fp_dg T.2.1 f x + fp_dg T.2.1 g y) = T.2.2.1 ∧ fp_rs T x y = T.2.2.1)) (fun _ => some (.int 0, fp_m L R I J)) T.1 (fun y hy => by
      have d2 := fp_dg_lt (n := g) (x := y) h.2.2.1
      rw [e_X5_isSure_24]
      simp only [gi_T hr, hT.1, hT.2.1, Option.bind_some, c_digit _ hg h.2.2.1 (show T.2.1 < 2 ^ 31 by omega) (show y < 2 ^ 31 by omega), fp_oI', gr_T hR hr, c_spot]
      rw [if_neg (nI_ge hy (by omega)), ai_T hr (by omega), hT.2.2.2 _ (by omega)]
      simp only [Option.bind_some, hT.2.2.1, k_T hr, cond_true, c_rowSum hR hr hT hok (show x < 3 by omega) (show y < 3 by omega), fp_oI', gi_T hr, nI_1]
      have hb := fp_rs_le hok x y 9 (Nat.le_refl _)
      have b1 := h.2.2.2.2.2.2.1 (27 * x + 9 * y + 3 * fp_dg T.2.1 f x + fp_dg T.2.1 g y)
      by_cases e1 : T.2.2.2 (27 * x + 9 * y + 3 * fp_dg T.2.1 f x + fp_dg T.2.1 g y) = T.2.2.1
      · rw [if_pos (by rw [e1])]
        by_cases e : fp_rs T x y = T.2.2.1
        · rw [if_pos (by rw [e]), if_neg (not_not_intro ⟨e1, e⟩)]
        · rw [if_neg (by rw [nI_eq (by unfold fp_rs; omega) (by omega)]; exact e), if_pos (fun q => e q.2)]
      · rw [if_neg (by rw [nI_eq (by omega) (by omega)]; exact e1), if_pos (fun q => e1 q.1)])
    rcases loop with ⟨y, h1, h2, -, h3⟩ | ⟨h1, h2⟩
    · rw [if_pos (fun q => h2 (q y h1))]
      exact h3
    · rw [if_neg (not_not_intro fun y hy => Classical.not_not.mp (h1 y hy))]
      refine h2.trans ?_
      rw [e_X5_isSure_24, gi_T hr, hT.1, Option.bind_some, if_pos (nI_le (Nat.le_refl _) (by omega)), nI_1]
  have fin : pm_res mX5_isSure 2 [(0, .ref r), (1, .int (nI f)), (2, .int (nI g)), (3, .int (nI T.1))] [] (fp_m L R I J) = some (.int 1, fp_m L R I J) := by
    rw [e_X5_isSure_2, gi_T hr, hT.1, Option.bind_some, if_pos (nI_le (Nat.le_refl _) (by omega))]
  have outer := fp_lpx (fun x => pm_res mX5_isSure 2 [(0, .ref r), (1, .int (nI f)), (2, .int (nI g)), (3, .int (nI x))] [] (fp_m L R I J)) (fun x => ¬ ∀ y, y < T.1 → T.2.2.2 (27 * x + 9 * y + 3 * fp_dg T.2.1 f x + fp_dg T.2.1 g y) = T.2.2.1 ∧ fp_rs T x y = T.2.2.1) (fun _ => some (.int 0, fp_m L R I J)) T.1 inner
  rw [e_X5_isSure]
  rcases outer with ⟨x, h1, h2, -, h3⟩ | ⟨h1, h2⟩
  · exact ⟨fun q => absurd (fun y hy => ⟨q.2 x h1 y hy, q.1 x h1 y hy⟩) h2, fun _ => h3⟩
  · refine ⟨fun _ => h2.trans fin, fun q => absurd ⟨fun x hx y hy => ?_, fun x hx y hy => ?_⟩ q⟩
    · exact (Classical.not_not.mp (h1 x hx) y hy).2
    · exact (Classical.not_not.mp (h1 x hx) y hy).1
theorem c_sn_step (hR : fp_RK R) {r : Nat} (hr : fp_tb r) {T : fp_T} (hT : fp_at I r T) (hok : fp_okT T) (h0 : T.1 ≠ 0) {j f g : Nat} (hj : j < T.1) : pm_res mX5_sureNumber 11 [(0, .ref r), (1, .int (nI f)), (2, .int (nI g)), (3, .int (nI (j + 1) - 1))] [] (fp_m L R I J) = match fp_f1 (fp_sa T j 0) 9, fp_f1 (fp_sa T 0 j) 9 with
    | some u, some v => pm_res mX5_sureNumber 11 [(0, .ref r), (1, .int (nI (f * T.2.1 + u / 3))), (2, .int (nI (g * T.2.1 + v % 3))), (3, .int (nI j - 1))] [] (fp_m L R I J)
    | _, _ => some (.int (-1), fp_m L R I J) := by
  have h := fp_okT_1 hok h0
  rw [nI_pred, e_X5_sureNumber_11, if_neg (nI_pos (by omega))]
  have s1 := c_sureAnswers (L := L) (J := J) hR hr hT hok (show j < 3 by omega) (show 0 < 3 by omega)
  have s2 := c_sureAnswers (L := L) (J := J) hR hr hT hok (show 0 < 3 by omega) (show j < 3 by omega)
  rw [show (nI 0) = 0 from rfl] at s1 s2
  cases e1 : fp_f1 (fp_sa T j 0) 9 with
  | none =>
    simp only [e1] at s1
    cases e2 : fp_f1 (fp_sa T 0 j) 9 with
    | none => simp only [e2] at s2; simp only [k_T hr, cond_true, s1, s2, fp_oI', Option.bind_some]; rfl
    | some v => simp only [e2] at s2; simp only [k_T hr, cond_true, s1, s2, fp_oI', Option.bind_some]; rfl
  | some u =>
    have hu : u < 9 := by
      obtain ⟨k, k1, k2⟩ := fp_f1_in e1
      unfold fp_sa at k2
      split at k2
      · cases k2; exact k1
      · cases k2
    simp only [e1] at s1
    cases e2 : fp_f1 (fp_sa T 0 j) 9 with
    | none =>
      simp only [e2] at s2
      simp only [k_T hr, cond_true, s1, s2, fp_oI', Option.bind_some]
      rw [if_neg (nI_pos (by omega))]
      rfl
    | some v =>
      have hv : v < 9 := by
        obtain ⟨k, k1, k2⟩ := fp_f1_in e2
        unfold fp_sa at k2
        split at k2
        · cases k2; exact k1
        · cases k2
      simp only [e2] at s2
      simp only [k_T hr, cond_true, s1, s2, fp_oI', Option.bind_some, gi_T hr, hT.2.1]
      rw [if_neg (nI_pos (by omega)), if_pos (nI_pos' (by omega)), nd_3 (by omega), nq_3 (by omega), pk_mul, pk_mul, nI_add, nI_add, ← Int32.sub_eq_add_neg]
theorem c_sn_end (hR : fp_RK R) {r : Nat} (hr : fp_tb r) {T : fp_T} (hT : fp_at I r T) (hok : fp_okT T) (h0 : T.1 ≠ 0) {f g : Nat} (hf : f < 2 ^ 31) (hg : g < 2 ^ 31) : ((fp_pr T ∧ fp_su T f g) → pm_res mX5_sureNumber 11 [(0, .ref r), (1, .int (nI f)), (2, .int (nI g)), (3, .int (nI 0 - 1))] [] (fp_m L R I J) = some (.int (nI (f * T.2.1 ^ T.1 + g)), fp_m L R I J)) ∧ (¬ (fp_pr T ∧ fp_su T f g) → pm_res mX5_sureNumber 11 [(0, .ref r), (1, .int (nI f)), (2, .int (nI g)), (3, .int (nI 0 - 1))] [] (fp_m L R I J) = some (.int (-1), fp_m L R I J)) := by
  have h := fp_okT_1 hok h0
  have c := c_isSure (L := L) (J := J) hR hr hT hok h0 hf hg
  constructor
  · intro q
    rw [e_X5_sureNumber_11, if_pos (by decide)]
    simp only [k_T hr, cond_true, c.1 q, fp_oI', Option.bind_some, fp_10, if_false, gi_T hr, hT.1, hT.2.1, c_power _ _ _ (show T.1 < 2 ^ 31 by omega), pk_mul, nI_add]
  · intro q
    rw [e_X5_sureNumber_11, if_pos (by decide)]
    simp only [k_T hr, cond_true, c.2 q, fp_oI', Option.bind_some, if_true]
theorem fp_sa_in {T : fp_T} (hok : fp_okT T) (h0 : T.1 ≠ 0) {x y v : Nat} (h : fp_f1 (fp_sa T x y) 9 = some v) : v / 3 < T.2.1 ∧ v % 3 < T.2.1 := by
  have ho := fp_okT_1 hok h0
  obtain ⟨k, k1, k2⟩ := fp_f1_in h
  unfold fp_sa at k2
  split at k2
  · rename_i e
    cases k2
    by_cases hi : fp_in T.1 T.2.1 (27 * x + 9 * y + v)
    · obtain ⟨-, -, -, i3, i4⟩ := hi
      rw [show (27 * x + 9 * y + v) / 3 % 3 = v / 3 by omega] at i3
      rw [show (27 * x + 9 * y + v) % 3 = v % 3 by omega] at i4
      exact ⟨i3, i4⟩
    · have := ho.2.2.2.2.2.2.2 _ hi
      omega
  · cases k2
theorem c_sureNumber (hR : fp_RK R) {r : Nat} (hr : fp_tb r) {T : fp_T} (hT : fp_at I r T) (hok : fp_okT T) (h0 : T.1 ≠ 0) : (∀ n, fp_sr T n → pm_C mX5_sureNumber [.ref r] (fp_m L R I J) = some (.int (nI n), fp_m L R I J)) ∧ ((∀ n, ¬ fp_sr T n) → pm_C mX5_sureNumber [.ref r] (fp_m L R I J) = some (.int (-1), fp_m L R I J)) := by
  have h := fp_okT_1 hok h0
  have hpos : 0 < T.2.1 ^ T.1 := Nat.pow_pos (by omega)
  have hpw := fp_pw3 h.2.2.2.1 h.2.1
  constructor
  · intro n hn
    obtain ⟨n1, n2, n3⟩ := hn
    rw [show 2 * T.1 = T.1 + T.1 by omega, Nat.pow_add] at n2
    have hf : n / T.2.1 ^ T.1 < T.2.1 ^ T.1 := Nat.div_lt_of_lt_mul n2
    have hg : n % T.2.1 ^ T.1 < T.2.1 ^ T.1 := Nat.mod_lt _ hpos
    have e : n / T.2.1 ^ T.1 * T.2.1 ^ T.1 + n % T.2.1 ^ T.1 = n := by rw [Nat.mul_comm]; exact Nat.div_add_mod _ _
    generalize n / T.2.1 ^ T.1 = f at *
    generalize n % T.2.1 ^ T.1 = g at *
    have key : ∀ j, j ≤ T.1 → pm_res mX5_sureNumber 11 [(0, .ref r), (1, .int (nI (f / T.2.1 ^ j))), (2, .int (nI (g / T.2.1 ^ j))), (3, .int (nI j - 1))] [] (fp_m L R I J) = pm_res mX5_sureNumber 11 [(0, .ref r), (1, .int (nI f)), (2, .int (nI g)), (3, .int (nI 0 - 1))] [] (fp_m L R I J) := by
      intro j
      induction j with
      | zero => intro _; rw [Nat.pow_zero, Nat.div_one, Nat.div_one]
      | succ j ih =>
        intro hj
        have d1 := fp_dg_lt (n := f) (x := j) h.2.2.1
        have d2 := fp_dg_lt (n := f) (x := 0) h.2.2.1
        have d3 := fp_dg_lt (n := g) (x := j) h.2.2.1
        have d4 := fp_dg_lt (n := g) (x := 0) h.2.2.1
        rw [c_sn_step hR hr hT hok h0 (show j < T.1 by omega), fp_su_sa hok h0 n1 n3 (show j < T.1 by omega) (show 0 < T.1 by omega), fp_su_sa hok h0 n1 n3 (show 0 < T.1 by omega) (show j < T.1 by omega)]
        simp only []
        rw [show (3 * fp_dg T.2.1 f j + fp_dg T.2.1 g 0) / 3 = fp_dg T.2.1 f j by omega, show (3 * fp_dg T.2.1 f 0 + fp_dg T.2.1 g j) % 3 = fp_dg T.2.1 g j by omega, fp_dg_step, fp_dg_step]
        exact ih (by omega)
    have k := key T.1 (Nat.le_refl _)
    rw [Nat.div_eq_of_lt hf, Nat.div_eq_of_lt hg] at k
    rw [e_X5_sureNumber, gi_T hr, hT.1, Option.bind_some]
    refine (show pm_res mX5_sureNumber 11 [(0, .ref r), (1, .int 0), (2, .int 0), (3, .int (nI T.1 - 1))] [] (fp_m L R I J) = _ from k).trans ?_
    rw [(c_sn_end hR hr hT hok h0 (by omega) (by omega)).1 ⟨n1, n3⟩, e]
  · intro hn
    have key : ∀ j, j ≤ T.1 → ∀ f g, f < T.2.1 ^ (T.1 - j) → g < T.2.1 ^ (T.1 - j) → pm_res mX5_sureNumber 11 [(0, .ref r), (1, .int (nI f)), (2, .int (nI g)), (3, .int (nI j - 1))] [] (fp_m L R I J) = some (.int (-1), fp_m L R I J) := by
      intro j
      induction j with
      | zero =>
        intro _ f g hf hg
        rw [Nat.sub_zero] at hf hg
        refine (c_sn_end hR hr hT hok h0 (by omega) (by omega)).2 (fun q => hn (f * T.2.1 ^ T.1 + g) ⟨q.1, ?_, ?_⟩)
        · rw [show 2 * T.1 = T.1 + T.1 by omega, Nat.pow_add]
          have : (f + 1) * T.2.1 ^ T.1 ≤ T.2.1 ^ T.1 * T.2.1 ^ T.1 := Nat.mul_le_mul_right _ hf
          rw [Nat.succ_mul] at this
          omega
        · rw [Nat.mul_comm, Nat.mul_add_div hpos, Nat.div_eq_of_lt hg, Nat.mul_add_mod, Nat.mod_eq_of_lt hg]
          exact q.2
      | succ j ih =>
        intro hj f g hf hg
        rw [c_sn_step hR hr hT hok h0 (show j < T.1 by omega)]
        have bd : ∀ f u, f < T.2.1 ^ (T.1 - (j + 1)) → u < T.2.1 → f * T.2.1 + u < T.2.1 ^ (T.1 - j) := by
          intro f u hf hu
          rw [show T.1 - j = T.1 - (j + 1) + 1 by omega, Nat.pow_succ]
          have : (f + 1) * T.2.1 ≤ T.2.1 ^ (T.1 - (j + 1)) * T.2.1 := Nat.mul_le_mul_right _ hf
          rw [Nat.succ_mul] at this
          omega
        cases e1 : fp_f1 (fp_sa T j 0) 9 with
        | none => cases fp_f1 (fp_sa T 0 j) 9 <;> rfl
        | some u =>
          cases e2 : fp_f1 (fp_sa T 0 j) 9 with
          | none => rfl
          | some v => exact ih (by omega) _ _ (bd f _ hf (fp_sa_in hok h0 e1).1) (bd g _ hg (fp_sa_in hok h0 e2).2)
    rw [e_X5_sureNumber, gi_T hr, hT.1, Option.bind_some]
    exact key T.1 (Nat.le_refl _) 0 0 (Nat.pow_pos (by omega)) (Nat.pow_pos (by omega))
theorem r_isSureOf (hR : fp_RK R) {t : Nat} (ht : t < 8) {T : fp_T} (hT : fp_mt I t T) (hok : fp_okT T) (h0 : T.1 ≠ 0) {n : Nat} (hn : n < 2 ^ 31) : (fp_su T (n / T.2.1 ^ T.1) (n % T.2.1 ^ T.1) → pm_C mX7_isSureOf [.ref 45, .int (nI t), .int (nI n)] (fp_m L R I J) = some (.int 1, fp_m L R I J)) ∧ (¬ fp_su T (n / T.2.1 ^ T.1) (n % T.2.1 ^ T.1) → pm_C mX7_isSureOf [.ref 45, .int (nI t), .int (nI n)] (fp_m L R I J) = some (.int 0, fp_m L R I J)) := by
  classical
  have h := fp_okT_1 hok h0
  have inner : ∀ x, x < T.1 → pm_res mX7_isSureOf 2 [(0, .ref 45), (1, .int (nI t)), (2, .int (nI n)), (3, .int (nI x))] [] (fp_m L R I J) = if (¬ ∀ y, y < T.1 → T.2.2.2 (27 * x + 9 * y + 3 * fp_dg T.2.1 (n / T.2.1 ^ T.1) x + fp_dg T.2.1 (n % T.2.1 ^ T.1) y) = T.2.2.1) then some (.int 0, fp_m L R I J) else pm_res mX7_isSureOf 2 [(0, .ref 45), (1, .int (nI t)), (2, .int (nI n)), (3, .int (nI (x + 1)))] [] (fp_m L R I J) := by
    intro x hx
    rw [e_X7_isSureOf_2]
    simp only [k_45, cond_true, r_q hR ht hT, fp_oI', Option.bind_some]
    rw [if_neg (nI_ge hx (by omega))]
    have d1 := fp_dg_lt (n := n / T.2.1 ^ T.1) (x := x) h.2.2.1
    have loop := fp_lpx (fun y => pm_res mX7_isSureOf 14 [(0, .ref 45), (1, .int (nI t)), (2, .int (nI n)), (3, .int (nI x)), (4, .int (nI y))] [] (fp_m L R I J)) (fun y => ¬ (T.2.2.2 (27 * x + 9 * y + 3 * fp_dg T.2.1 (n / T.2.1 ^ T.1) x + fp_dg T.2.1 (n % T.2.1 ^ T.1) y) = T.2.2.1)) (fun _ => some (.int 0, fp_m L R I J)) T.1 (fun y hy => by
      have d2 := fp_dg_lt (n := n % T.2.1 ^ T.1) (x := y) h.2.2.1
      have a1 : pm_C mX7_answer [.int (nI T.1), .int (nI T.2.1), .int (nI n), .int 0, .int (nI x)] (fp_m L R I J) = some (.int (nI (fp_dg T.2.1 (n / T.2.1 ^ T.1) x)), fp_m L R I J) := r_answer _ (p := 0) h.2.1 h.2.2.1 h.2.2.2.1 hn (by decide) (by omega)
      have a2 : pm_C mX7_answer [.int (nI T.1), .int (nI T.2.1), .int (nI n), .int 1, .int (nI y)] (fp_m L R I J) = some (.int (nI (fp_dg T.2.1 (n % T.2.1 ^ T.1) y)), fp_m L R I J) := r_answer _ (p := 1) h.2.1 h.2.2.1 h.2.2.2.1 hn (by decide) (by omega)
      rw [e_X7_isSureOf_14]
      simp only [k_45, cond_true, r_q hR ht hT, r_a hR ht hT, fp_oI', Option.bind_some, a1, a2, r_get hR ht (show x < 3 by omega) (show y < 3 by omega) (show fp_dg T.2.1 (n / T.2.1 ^ T.1) x < 3 by omega) (show fp_dg T.2.1 (n % T.2.1 ^ T.1) y < 3 by omega) hT, r_whole hR ht hT, nI_1]
      rw [if_neg (nI_ge hy (by omega))]
      have b1 := h.2.2.2.2.2.2.1 (27 * x + 9 * y + 3 * fp_dg T.2.1 (n / T.2.1 ^ T.1) x + fp_dg T.2.1 (n % T.2.1 ^ T.1) y)
      by_cases e1 : T.2.2.2 (27 * x + 9 * y + 3 * fp_dg T.2.1 (n / T.2.1 ^ T.1) x + fp_dg T.2.1 (n % T.2.1 ^ T.1) y) = T.2.2.1
      · rw [if_pos (by rw [e1]), if_neg (not_not_intro e1)]
      · rw [if_neg (by rw [nI_eq (by omega) (by omega)]; exact e1), if_pos e1])
    rcases loop with ⟨y, h1, h2, -, h3⟩ | ⟨h1, h2⟩
    · rw [if_pos (fun q => h2 (q y h1))]
      exact h3
    · rw [if_neg (not_not_intro fun y hy => Classical.not_not.mp (h1 y hy))]
      refine h2.trans ?_
      rw [e_X7_isSureOf_14]
      simp only [k_45, cond_true, r_q hR ht hT, fp_oI', Option.bind_some]
      rw [if_pos (nI_le (Nat.le_refl _) (by omega)), nI_1]
  have fin : pm_res mX7_isSureOf 2 [(0, .ref 45), (1, .int (nI t)), (2, .int (nI n)), (3, .int (nI T.1))] [] (fp_m L R I J) = some (.int 1, fp_m L R I J) := by
    rw [e_X7_isSureOf_2]
    simp only [k_45, cond_true, r_q hR ht hT, fp_oI', Option.bind_some]
    rw [if_pos (nI_le (Nat.le_refl _) (by omega))]
  have outer := fp_lpx (fun x => pm_res mX7_isSureOf 2 [(0, .ref 45), (1, .int (nI t)), (2, .int (nI n)), (3, .int (nI x))] [] (fp_m L R I J)) (fun x => ¬ ∀ y, y < T.1 → T.2.2.2 (27 * x + 9 * y + 3 * fp_dg T.2.1 (n / T.2.1 ^ T.1) x + fp_dg T.2.1 (n % T.2.1 ^ T.1) y) = T.2.2.1) (fun _ => some (.int 0, fp_m L R I J)) T.1 inner
  rw [e_X7_isSureOf]
  rcases outer with ⟨x, h1, h2, -, h3⟩ | ⟨h1, h2⟩
  · exact ⟨fun q => absurd (fun y hy => q x h1 y hy) h2, fun _ => h3⟩
  · exact ⟨fun _ => h2.trans fin, fun q => absurd (fun x hx => Classical.not_not.mp (h1 x hx)) q⟩
theorem r_sureNumber (hR : fp_RK R) {t : Nat} (ht : t < 8) {T : fp_T} (hT : fp_mt I t T) (hok : fp_okT T) (h0 : T.1 ≠ 0) : (∀ n, fp_sr T n → pm_C mX7_sureNumber [.ref 45, .int (nI t)] (fp_m L R I J) = some (.long (nI n).toInt64, fp_m L R I J)) ∧ ((∀ n, ¬ fp_sr T n) → pm_C mX7_sureNumber [.ref 45, .int (nI t)] (fp_m L R I J) = some (.long pm_NONE, fp_m L R I J)) := by
  classical
  have h := fp_okT_1 hok h0
  have hpw := fp_pw6 h.2.2.2.1 h.2.1
  by_cases hp : fp_pr T
  case neg =>
    refine ⟨fun n q => absurd q.1 hp, fun _ => ?_⟩
    rw [e_X7_sureNumber]
    simp only [k_45, cond_true, (r_isProper (L := L) (J := J) hR ht hT hok).2 hp, fp_oI', Option.bind_some, if_true]
  have loop := fp_lpx (fun n => pm_res mX7_sureNumber 30 [(0, .ref 45), (1, .int (nI t)), (2, .int (nI (T.2.1 ^ (2 * T.1)))), (3, .int (nI n))] [] (fp_m L R I J)) (fun n => fp_su T (n / T.2.1 ^ T.1) (n % T.2.1 ^ T.1)) (fun n => some (.long (nI n).toInt64, fp_m L R I J)) (T.2.1 ^ (2 * T.1)) (fun n hn => by
    have c := r_isSureOf (L := L) (J := J) hR ht hT hok h0 (show n < 2 ^ 31 by omega)
    rw [e_X7_sureNumber_30, if_neg (nI_ge hn (by omega))]
    by_cases e : fp_su T (n / T.2.1 ^ T.1) (n % T.2.1 ^ T.1)
    · simp only [k_45, cond_true, c.1 e, fp_oI', Option.bind_some, fp_10, if_false]
      rw [if_pos e]
    · simp only [k_45, cond_true, c.2 e, fp_oI', Option.bind_some, if_true, nI_1]
      rw [if_neg e])
  have st : pm_C mX7_sureNumber [.ref 45, .int (nI t)] (fp_m L R I J) = pm_res mX7_sureNumber 30 [(0, .ref 45), (1, .int (nI t)), (2, .int (nI (T.2.1 ^ (2 * T.1)))), (3, .int (nI 0))] [] (fp_m L R I J) := by
    rw [e_X7_sureNumber]
    simp only [k_45, cond_true, (r_isProper (L := L) (J := J) hR ht hT hok).1 hp, fp_oI', Option.bind_some, fp_10, if_false, r_a hR ht hT, r_q hR ht hT, nm_2, r_power _ _ _ (show 2 * T.1 < 2 ^ 31 by omega)]
    rfl
  rw [st]
  rcases loop with ⟨m, h1, h2, -, h3⟩ | ⟨h1, h2⟩
  · refine ⟨fun n q => ?_, fun q => absurd ⟨hp, h1, h2⟩ (q m)⟩
    rw [fp_sr_uniq hok h0 q ⟨hp, h1, h2⟩]
    exact h3
  · refine ⟨fun n q => absurd q.2.2 (h1 n q.2.1), fun _ => h2.trans ?_⟩
    rw [e_X7_sureNumber_30, if_pos (nI_le (Nat.le_refl _) (by omega))]
end FpSure
