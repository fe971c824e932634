/-! proper, on both sides -/
def fp_sm (f : Nat → Nat) : Nat → Nat
  | 0 => 0
  | n + 1 => fp_sm f n + f n
theorem fp_sm_le {f : Nat → Nat} {B : Nat} (h : ∀ i, f i ≤ B) : ∀ n, fp_sm f n ≤ n * B
  | 0 => by simp [fp_sm]
  | n + 1 => by
    have := fp_sm_le h n
    have := h n
    rw [fp_sm, Nat.succ_mul]
    omega
theorem fp_sm_cong {f g : Nat → Nat} : ∀ n, (∀ i, i < n → f i = g i) → fp_sm f n = fp_sm g n
  | 0, _ => rfl
  | n + 1, h => by rw [fp_sm, fp_sm, fp_sm_cong n (fun i hi => h i (by omega)), h n (by omega)]
def fp_rs (T : fp_T) (x y : Nat) : Nat := fp_sm (fun k => T.2.2.2 (27 * x + 9 * y + k)) 9
def fp_pr (T : fp_T) : Prop := ∀ x, x < T.1 → ∀ y, y < T.1 → fp_rs T x y = T.2.2.1
section FpPr
variable {L : Nat} {R : Nat → Nat → Option Nat} {I : Nat → Nat → Int32} {J : Nat → Nat → Int64}
theorem fp_rs_le {T : fp_T} (hT : fp_okT T) (x y : Nat) (n : Nat) (hn : n ≤ 9) : fp_sm (fun k => T.2.2.2 (27 * x + 9 * y + k)) n ≤ 9000000 := by
  have h := fp_okT_q hT
  have := fp_sm_le (f := fun k => T.2.2.2 (27 * x + 9 * y + k)) (B := 1000000) (fun i => Nat.le_trans (h.2.2.2 _) h.2.2.1) n
  omega
theorem c_rowSum (hR : fp_RK R) {r : Nat} (hr : fp_tb r) {T : fp_T} (hT : fp_at I r T) (hok : fp_okT T) {x y : Nat} (hx : x < 3) (hy : y < 3) : pm_C mX5_rowSum [.ref r, .int (nI x), .int (nI y)] (fp_m L R I J) = some (.int (nI (fp_rs T x y)), fp_m L R I J) := by
  rw [e_X5_rowSum, show (0 : Int32) = nI 0 from rfl, c_spot, fp_oI']
  simp only [Option.bind_some]
  have key := fp_lp0 (fun i => pm_res mX5_rowSum 14 [(0, .ref r), (3, .int (nI (27 * x + 9 * y + 3 * 0 + 0))), (4, .int (nI (fp_sm (fun k => T.2.2.2 (27 * x + 9 * y + k)) i))), (5, .int (nI i))] [] (fp_m L R I J)) 9 (fun i hi => by
    rw [e_X5_rowSum_14, if_neg (fp_ge hi (by decide))]
    simp only [gr_T hR hr, Option.bind_some, nI_add]
    rw [ai_T hr (by omega), hT.2.2.2 _ (by omega)]
    simp only [Option.bind_some, nI_add, nI_1, fp_sm]
    rw [show 27 * x + 9 * y + 3 * 0 + 0 + i = 27 * x + 9 * y + i by omega])
  refine key.trans ?_
  rw [e_X5_rowSum_14, if_pos (fp_le (Nat.le_refl _) (by decide))]
  rfl
theorem c_isProper (hR : fp_RK R) {r : Nat} (hr : fp_tb r) {T : fp_T} (hT : fp_at I r T) (hok : fp_okT T) : (fp_pr T → pm_C mX5_isProper [.ref r] (fp_m L R I J) = some (.int 1, fp_m L R I J)) ∧ (¬ fp_pr T → pm_C mX5_isProper [.ref r] (fp_m L R I J) = some (.int 0, fp_m L R I J)) := by
  classical
  have hq := fp_okT_q hok
  have inner : ∀ x, x < T.1 → pm_res mX5_isProper 2 [(0, .ref r), (1, .int (nI x))] [] (fp_m L R I J) = if (¬ ∀ y, y < T.1 → fp_rs T x y = T.2.2.1) then some (.int 0, fp_m L R I J) else pm_res mX5_isProper 2 [(0, .ref r), (1, .int (nI (x + 1)))] [] (fp_m L R I J) := by
    intro x hx
    rw [e_X5_isProper_2, gi_T hr, hT.1, Option.bind_some, if_neg (nI_ge hx (by omega))]
    have loop := fp_lpx (fun y => pm_res mX5_isProper 12 [(0, .ref r), (1, .int (nI x)), (2, .int (nI y))] [] (fp_m L R I J)) (fun y => fp_rs T x y ≠ T.2.2.1) (fun _ => some (.int 0, fp_m L R I J)) T.1 (fun y hy => by
      rw [e_X5_isProper_12, gi_T hr, hT.1, Option.bind_some, if_neg (nI_ge hy (by omega))]
      simp only [k_T hr, cond_true, c_rowSum hR hr hT hok (show x < 3 by omega) (show y < 3 by omega), fp_oI', Option.bind_some, gi_T hr, hT.2.2.1, nI_1]
      have hb := fp_rs_le hok x y 9 (Nat.le_refl _)
      by_cases e : fp_rs T x y = T.2.2.1
      · rw [if_pos (by rw [e]), if_neg (not_not_intro e)]
      · rw [if_neg (by rw [nI_eq (by unfold fp_rs; omega) (by omega)]; exact e), if_pos e])
    rcases loop with ⟨y, h1, h2, -, h3⟩ | ⟨h1, h2⟩
    · rw [if_pos (fun q => h2 (q y h1))]
      exact h3
    · rw [if_neg (not_not_intro fun y hy => Classical.not_not.mp (h1 y hy))]
      refine h2.trans ?_
      rw [e_X5_isProper_12, gi_T hr, hT.1, Option.bind_some, if_pos (nI_le (Nat.le_refl _) (by omega)), nI_1]
  have fin : pm_res mX5_isProper 2 [(0, .ref r), (1, .int (nI T.1))] [] (fp_m L R I J) = some (.int 1, fp_m L R I J) := by
    rw [e_X5_isProper_2, gi_T hr, hT.1, Option.bind_some, if_pos (nI_le (Nat.le_refl _) (by omega))]
  have outer := fp_lpx (fun x => pm_res mX5_isProper 2 [(0, .ref r), (1, .int (nI x))] [] (fp_m L R I J)) (fun x => ¬ ∀ y, y < T.1 → fp_rs T x y = T.2.2.1) (fun _ => some (.int 0, fp_m L R I J)) T.1 inner
  rw [e_X5_isProper]
  rcases outer with ⟨x, h1, h2, -, h3⟩ | ⟨h1, h2⟩
  · exact ⟨fun h => absurd (h x h1) h2, fun _ => h3⟩
  · exact ⟨fun _ => h2.trans fin, fun h => absurd (fun x hx => Classical.not_not.mp (h1 x hx)) h⟩
theorem r_isProper (hR : fp_RK R) {t : Nat} (ht : t < 8) {T : fp_T} (hT : fp_mt I t T) (hok : fp_okT T) : (fp_pr T → pm_C mX7_isProper [.ref 45, .int (nI t)] (fp_m L R I J) = some (.int 1, fp_m L R I J)) ∧ (¬ fp_pr T → pm_C mX7_isProper [.ref 45, .int (nI t)] (fp_m L R I J) = some (.int 0, fp_m L R I J)) := by
  classical
  have hq := fp_okT_q hok
  have row : ∀ (v : Int32) (x y : Nat), x < 3 → y < 3 → pm_res mX7_isProper 32 [(0, .ref 45), (1, .int (nI t)), (2, .int v), (3, .int (nI x)), (4, .int (nI y)), (5, .long 0), (7, .int 0)] [] (fp_m L R I J) = if v = 0 then pm_res mX7_isProper 16 [(0, .ref 45), (1, .int (nI t)), (2, .int 0), (3, .int (nI x)), (4, .int (nI (y + 1)))] [] (fp_m L R I J) else if fp_rs T x y = T.2.2.1 then pm_res mX7_isProper 16 [(0, .ref 45), (1, .int (nI t)), (2, .int 1), (3, .int (nI x)), (4, .int (nI (y + 1)))] [] (fp_m L R I J) else pm_res mX7_isProper 16 [(0, .ref 45), (1, .int (nI t)), (2, .int 0), (3, .int (nI x)), (4, .int (nI (y + 1)))] [] (fp_m L R I J) := by
    intro v x y hx hy
    have key := fp_lp0 (fun i => pm_res mX7_isProper 32 [(0, .ref 45), (1, .int (nI t)), (2, .int v), (3, .int (nI x)), (4, .int (nI y)), (5, .long (lN (fp_sm (fun k => T.2.2.2 (27 * x + 9 * y + k)) i))), (7, .int (nI i))] [] (fp_m L R I J)) 9 (fun i hi => by
      have hb := fp_okT_q hok
      rw [e_X7_isProper_32, if_neg (fp_ge hi (by decide)), nd_3 (by omega), nq_3 (by omega)]
      simp only [k_45, cond_true, r_get hR ht hx hy (show i / 3 < 3 by omega) (show i % 3 < 3 by omega) hT, fp_oI', Option.bind_some, nI_1]
      rw [nI_l (Nat.lt_of_le_of_lt (Nat.le_trans (hb.2.2.2 _) hb.2.2.1) (by decide)), lN_add, show 27 * x + 9 * y + 3 * (i / 3) + i % 3 = 27 * x + 9 * y + i by omega]
      rfl)
    refine key.trans ?_
    rw [e_X7_isProper_32, if_pos (fp_le (Nat.le_refl _) (by decide))]
    simp only [k_45, cond_true, r_whole hR ht hT, fp_oI', Option.bind_some, fp_cmp_eq, nI_1]
    have hb := fp_rs_le hok x y 9 (Nat.le_refl _)
    rw [nI_l (by omega)]
    by_cases hv : v = 0
    · rw [if_pos hv, if_pos hv]
    · rw [if_neg hv, if_neg hv]
      by_cases e : fp_rs T x y = T.2.2.1
      · rw [if_pos e, if_pos (by rw [← e]; rfl)]
      · rw [if_neg e, if_neg (by rw [lN_eq (by omega) (by omega)]; exact e)]
  have zin : ∀ x, x < T.1 → ∀ y, y ≤ T.1 → pm_res mX7_isProper 16 [(0, .ref 45), (1, .int (nI t)), (2, .int 0), (3, .int (nI x)), (4, .int (nI y))] [] (fp_m L R I J) = pm_res mX7_isProper 4 [(0, .ref 45), (1, .int (nI t)), (2, .int 0), (3, .int (nI (x + 1)))] [] (fp_m L R I J) := by
    intro x hx y hy
    have := fp_lp (fun y => pm_res mX7_isProper 16 [(0, .ref 45), (1, .int (nI t)), (2, .int 0), (3, .int (nI x)), (4, .int (nI y))] [] (fp_m L R I J)) hy (fun j h1 h2 => by
      rw [e_X7_isProper_16]
      simp only [k_45, cond_true, r_q hR ht hT, fp_oI', Option.bind_some]
      rw [if_neg (nI_ge h2 (by omega)), row 0 x j (by omega) (by omega), if_pos rfl])
    refine this.trans ?_
    rw [e_X7_isProper_16]
    simp only [k_45, cond_true, r_q hR ht hT, fp_oI', Option.bind_some]
    rw [if_pos (nI_le (Nat.le_refl _) (by omega)), nI_1]
  have zout : ∀ x, x ≤ T.1 → pm_res mX7_isProper 4 [(0, .ref 45), (1, .int (nI t)), (2, .int 0), (3, .int (nI x))] [] (fp_m L R I J) = some (.int 0, fp_m L R I J) := by
    intro x hx
    have := fp_lp (fun x => pm_res mX7_isProper 4 [(0, .ref 45), (1, .int (nI t)), (2, .int 0), (3, .int (nI x))] [] (fp_m L R I J)) hx (fun j h1 h2 => by
      rw [e_X7_isProper_4]
      simp only [k_45, cond_true, r_q hR ht hT, fp_oI', Option.bind_some]
      rw [if_neg (nI_ge h2 (by omega))]
      exact zin j h2 0 (Nat.zero_le _))
    refine this.trans ?_
    rw [e_X7_isProper_4]
    simp only [k_45, cond_true, r_q hR ht hT, fp_oI', Option.bind_some]
    rw [if_pos (nI_le (Nat.le_refl _) (by omega))]
    rfl
  have inner : ∀ x, x < T.1 → pm_res mX7_isProper 4 [(0, .ref 45), (1, .int (nI t)), (2, .int 1), (3, .int (nI x))] [] (fp_m L R I J) = if (¬ ∀ y, y < T.1 → fp_rs T x y = T.2.2.1) then some (.int 0, fp_m L R I J) else pm_res mX7_isProper 4 [(0, .ref 45), (1, .int (nI t)), (2, .int 1), (3, .int (nI (x + 1)))] [] (fp_m L R I J) := by
    intro x hx
    rw [e_X7_isProper_4]
    simp only [k_45, cond_true, r_q hR ht hT, fp_oI', Option.bind_some]
    rw [if_neg (nI_ge hx (by omega))]
    have loop := fp_lpx (fun y => pm_res mX7_isProper 16 [(0, .ref 45), (1, .int (nI t)), (2, .int 1), (3, .int (nI x)), (4, .int (nI y))] [] (fp_m L R I J)) (fun y => fp_rs T x y ≠ T.2.2.1) (fun _ => some (.int 0, fp_m L R I J)) T.1 (fun y hy => by
      rw [e_X7_isProper_16]
      simp only [k_45, cond_true, r_q hR ht hT, fp_oI', Option.bind_some]
      rw [if_neg (nI_ge hy (by omega)), row 1 x y (by omega) (by omega), if_neg (by decide)]
      by_cases e : fp_rs T x y = T.2.2.1
      · rw [if_pos e, if_neg (not_not_intro e)]
      · rw [if_neg e, if_pos e, zin x hx (y + 1) (by omega), zout (x + 1) (by omega)])
    rcases loop with ⟨y, h1, h2, -, h3⟩ | ⟨h1, h2⟩
    · rw [if_pos (fun q => h2 (q y h1))]
      exact h3
    · rw [if_neg (not_not_intro fun y hy => Classical.not_not.mp (h1 y hy))]
      refine h2.trans ?_
      rw [e_X7_isProper_16]
      simp only [k_45, cond_true, r_q hR ht hT, fp_oI', Option.bind_some]
      rw [if_pos (nI_le (Nat.le_refl _) (by omega)), nI_1]
  have fin : pm_res mX7_isProper 4 [(0, .ref 45), (1, .int (nI t)), (2, .int 1), (3, .int (nI T.1))] [] (fp_m L R I J) = some (.int 1, fp_m L R I J) := by
    rw [e_X7_isProper_4]
    simp only [k_45, cond_true, r_q hR ht hT, fp_oI', Option.bind_some]
    rw [if_pos (nI_le (Nat.le_refl _) (by omega))]
    rfl
  have outer := fp_lpx (fun x => pm_res mX7_isProper 4 [(0, .ref 45), (1, .int (nI t)), (2, .int 1), (3, .int (nI x))] [] (fp_m L R I J)) (fun x => ¬ ∀ y, y < T.1 → fp_rs T x y = T.2.2.1) (fun _ => some (.int 0, fp_m L R I J)) T.1 inner
  rw [e_X7_isProper]
  rcases outer with ⟨x, h1, h2, -, h3⟩ | ⟨h1, h2⟩
  · exact ⟨fun h => absurd (h x h1) h2, fun _ => h3⟩
  · exact ⟨fun _ => h2.trans fin, fun h => absurd (fun x hx => Classical.not_not.mp (h1 x hx)) h⟩
end FpPr
