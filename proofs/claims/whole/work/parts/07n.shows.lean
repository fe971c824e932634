/-! whose answers show what the other one was asked -/
def fp_f1 (P : Nat → Option Nat) : Nat → Option Nat
  | 0 => none
  | n + 1 => match fp_f1 P n with
    | some v => some v
    | none => P n
theorem fp_f1_none {P : Nat → Option Nat} : ∀ {n : Nat}, (∀ i, i < n → P i = none) → fp_f1 P n = none
  | 0, _ => rfl
  | n + 1, h => by
    unfold fp_f1
    rw [fp_f1_none (fun i hi => h i (by omega))]
    exact h n (by omega)
theorem fp_f1_lt {P : Nat → Option Nat} {B : Nat} (h : ∀ i v, P i = some v → v < B) : ∀ {n v : Nat}, fp_f1 P n = some v → v < B
  | 0, _, q => by cases q
  | n + 1, v, q => by
    unfold fp_f1 at q
    split at q
    · rename_i u e; cases q; exact fp_f1_lt h e
    · exact h n v q
theorem fp_lpo {α : Type} (f : Nat → α) (P : Nat → Option Nat) (r : Nat → α) {a n : Nat} (han : a ≤ n) (h0 : ∀ i, i < a → P i = none) (h : ∀ i, a ≤ i → i < n → f i = match P i with
    | some v => r v
    | none => f (i + 1)) : f a = match fp_f1 P n with
    | some v => r v
    | none => f n := by
  induction n with
  | zero => rw [Nat.le_zero.mp han]; rfl
  | succ n ih =>
    rcases Nat.lt_or_ge n a with q | q
    · have e : a = n + 1 := by omega
      subst e
      rw [fp_f1_none h0]
    · have i1 := ih q (fun i h1 h2 => h i h1 (by omega))
      unfold fp_f1
      cases e : fp_f1 P n with
      | some v => rw [e] at i1; exact i1
      | none => rw [e] at i1; exact i1.trans (h n q (by omega))
def fp_sp (p o k a b : Nat) : Nat := if p = 0 then 27 * o + 9 * k + 3 * a + b else 27 * k + 9 * o + 3 * b + a
/-- a person's margin: own question o, the other's k, answer a -/
def fp_mg (T : fp_T) (p o k a : Nat) : Nat := fp_sm (fun b => T.2.2.2 (fp_sp p o k a b)) 3
def fp_P4 (T : fp_T) (p o a k : Nat) : Option Nat := if 1 ≤ k ∧ fp_mg T p o k a ≠ fp_mg T p o 0 a then some k else none
def fp_P3 (T : fp_T) (p o a : Nat) : Option Nat := (fp_f1 (fp_P4 T p o a) T.1).map (fun k => 27 * p + 9 * o + 3 * a + k)
def fp_P2 (T : fp_T) (p o : Nat) : Option Nat := fp_f1 (fp_P3 T p o) T.2.1
def fp_P1 (T : fp_T) (p : Nat) : Option Nat := fp_f1 (fp_P2 T p) T.1
def fp_ww (T : fp_T) : Option Nat := fp_f1 (fp_P1 T) 2
section FpShow
variable {L : Nat} {R : Nat → Nat → Option Nat} {I : Nat → Nat → Int32} {J : Nat → Nat → Int64}
theorem fp_sp_lt {p o k a b : Nat} (ho : o < 3) (hk : k < 3) (ha : a < 3) (hb : b < 3) : fp_sp p o k a b < 81 := by unfold fp_sp; split <;> omega
theorem fp_mg_le {T : fp_T} (hok : fp_okT T) (p o k a n : Nat) (hn : n ≤ 3) : fp_sm (fun b => T.2.2.2 (fp_sp p o k a b)) n ≤ 3000000 := by
  have h := fp_okT_q hok
  have := fp_sm_le (f := fun b => T.2.2.2 (fp_sp p o k a b)) (B := 1000000) (fun i => Nat.le_trans (h.2.2.2 _) h.2.2.1) n
  omega
theorem fp_mg_a {T : fp_T} (hok : fp_okT T) (h0 : T.1 ≠ 0) {p o k a : Nat} (hp : p < 2) (ho : o < 3) (hk : k < 3) (ha : a < 3) : fp_sm (fun b => T.2.2.2 (fp_sp p o k a b)) T.2.1 = fp_mg T p o k a := by
  rcases hok with q | ⟨q1, q2, q3, q4, q5, q6, q7, q8⟩
  · exact absurd q.1 h0
  · rcases (by omega : T.2.1 = 2 ∨ T.2.1 = 3) with e | e
    · rw [e]
      have hz : T.2.2.2 (fp_sp p o k a 2) = 0 := by
        apply q8
        rw [e]
        unfold fp_in fp_sp
        split <;> omega
      show _ = fp_sm _ 2 + T.2.2.2 (fp_sp p o k a 2)
      rw [hz]
      rfl
    · rw [e]; rfl
theorem c_spotOf (M : pm_M) {p : Nat} (hp : p < 2) (o k a b : Nat) : pm_C mX5_spotOf [.int (nI p), .int (nI o), .int (nI k), .int (nI a), .int (nI b)] M = some (.int (nI (fp_sp p o k a b)), M) := by
  rw [e_X5_spotOf]
  unfold fp_sp
  by_cases h : p = 0
  · rw [if_pos h, if_pos (fp_eqR h)]
    simp only [nm_27, nm_9, nm_3, nI_add]
  · rw [if_neg h, if_neg (fp_ne h (by omega) (by decide))]
    simp only [nm_27, nm_9, nm_3, nI_add]
theorem c_margin (hR : fp_RK R) {r : Nat} (hr : fp_tb r) {T : fp_T} (hT : fp_at I r T) (hok : fp_okT T) (h0 : T.1 ≠ 0) {p o k a : Nat} (hp : p < 2) (ho : o < 3) (hk : k < 3) (ha : a < 3) : pm_C mX5_margin [.ref r, .int (nI p), .int (nI o), .int (nI k), .int (nI a)] (fp_m L R I J) = some (.int (nI (fp_mg T p o k a)), fp_m L R I J) := by
  have hq := fp_okT_q hok
  rw [e_X5_margin]
  have key := fp_lp0 (fun i => pm_res mX5_margin 6 [(0, .ref r), (1, .int (nI p)), (2, .int (nI o)), (3, .int (nI k)), (4, .int (nI a)), (5, .int (nI (fp_sm (fun b => T.2.2.2 (fp_sp p o k a b)) i))), (6, .int (nI i))] [] (fp_m L R I J)) T.2.1 (fun i hi => by
    rw [e_X5_margin_6, gi_T hr, hT.2.1, Option.bind_some, if_neg (nI_ge hi (by omega))]
    simp only [gr_T hR hr, Option.bind_some, c_spotOf _ hp, fp_oI']
    have hlt := fp_sp_lt (p := p) ho hk ha (show i < 3 by omega)
    rw [ai_T hr hlt, hT.2.2.2 _ hlt]
    simp only [Option.bind_some, nI_add, nI_1, fp_sm])
  refine key.trans ?_
  rw [e_X5_margin_6, gi_T hr, hT.2.1, Option.bind_some, if_pos (nI_le (Nat.le_refl _) (by omega)), fp_mg_a hok h0 hp ho hk ha]
theorem c_firstOther (hR : fp_RK R) {r : Nat} (hr : fp_tb r) {T : fp_T} (hT : fp_at I r T) (hok : fp_okT T) (h0 : T.1 ≠ 0) {p o a : Nat} (hp : p < 2) (ho : o < 3) (ha : a < 3) : pm_C mX5_firstOtherMargin [.ref r, .int (nI p), .int (nI o), .int (nI a)] (fp_m L R I J) = some (.int (nI ((fp_f1 (fp_P4 T p o a) T.1).getD 0)), fp_m L R I J) := by
  have hq := fp_okT_q hok
  rw [e_X5_firstOtherMargin, k_T hr, cond_true, show (0 : Int32) = nI 0 from rfl, c_margin hR hr hT hok h0 hp ho (by decide) ha, fp_oI']
  simp only [Option.bind_some]
  have loop := fp_lpo (fun k => pm_res mX5_firstOtherMargin 13 [(0, .ref r), (1, .int (nI p)), (2, .int (nI o)), (3, .int (nI a)), (4, .int (nI (fp_mg T p o 0 a))), (5, .int (nI k))] [] (fp_m L R I J)) (fp_P4 T p o a) (fun k => some (.int (nI k), fp_m L R I J)) (a := 1) (n := T.1) (by omega) (fun i hi => by unfold fp_P4; exact if_neg (by omega)) (fun k h1 h2 => by
    rw [e_X5_firstOtherMargin_13, gi_T hr, hT.1, Option.bind_some, if_neg (nI_ge h2 (by omega))]
    simp only [k_T hr, cond_true, c_margin hR hr hT hok h0 hp ho (show k < 3 by omega) ha, fp_oI', Option.bind_some, nI_1]
    have b1 := fp_mg_le hok p o k a 3 (Nat.le_refl _)
    have b2 := fp_mg_le hok p o 0 a 3 (Nat.le_refl _)
    unfold fp_P4
    by_cases e : fp_mg T p o k a = fp_mg T p o 0 a
    · rw [if_pos (by rw [e]), if_neg (by intro q; exact q.2 e)]
    · rw [if_neg (by rw [nI_eq (by unfold fp_mg; omega) (by unfold fp_mg; omega)]; exact e), if_pos ⟨h1, e⟩])
  refine loop.trans ?_
  cases e : fp_f1 (fp_P4 T p o a) T.1 with
  | some v => rfl
  | none =>
    show pm_res mX5_firstOtherMargin 13 _ _ _ = _
    rw [e_X5_firstOtherMargin_13, gi_T hr, hT.1, Option.bind_some, if_pos (nI_le (Nat.le_refl _) (by omega))]
    rfl
theorem fp_P4_in {T : fp_T} {p o a n v : Nat} (h : fp_f1 (fp_P4 T p o a) n = some v) : 1 ≤ v ∧ v < n := by
  induction n with
  | zero => cases h
  | succ n ih =>
    unfold fp_f1 at h
    split at h
    · rename_i u e
      cases h
      have := ih e
      omega
    · unfold fp_P4 at h
      split at h
      · rename_i q; cases h; exact ⟨q.1, by omega⟩
      · cases h
theorem c_firstThat (hR : fp_RK R) {r : Nat} (hr : fp_tb r) {T : fp_T} (hT : fp_at I r T) (hok : fp_okT T) (h0 : T.1 ≠ 0) : pm_C mX5_firstThatShows [.ref r] (fp_m L R I J) = match fp_ww T with
    | some v => some (.int (nI v), fp_m L R I J)
    | none => some (.int (-1), fp_m L R I J) := by
  have hq := fp_okT_q hok
  rw [e_X5_firstThatShows]
  have l1 := fp_lpo (fun p => pm_res mX5_firstThatShows 2 [(0, .ref r), (1, .int (nI p))] [] (fp_m L R I J)) (fp_P1 T) (fun v => some (.int (nI v), fp_m L R I J)) (a := 0) (n := 2) (by omega) (fun i hi => absurd hi (Nat.not_lt_zero i)) (fun p _ hp => by
    rw [e_X5_firstThatShows_2, if_neg (fp_ge hp (by decide))]
    have l2 := fp_lpo (fun o => pm_res mX5_firstThatShows 9 [(0, .ref r), (1, .int (nI p)), (2, .int (nI o))] [] (fp_m L R I J)) (fp_P2 T p) (fun v => some (.int (nI v), fp_m L R I J)) (a := 0) (n := T.1) (by omega) (fun i hi => absurd hi (Nat.not_lt_zero i)) (fun o _ ho => by
      rw [e_X5_firstThatShows_9, gi_T hr, hT.1, Option.bind_some, if_neg (nI_ge ho (by omega))]
      have l3 := fp_lpo (fun a => pm_res mX5_firstThatShows 19 [(0, .ref r), (1, .int (nI p)), (2, .int (nI o)), (3, .int (nI a))] [] (fp_m L R I J)) (fp_P3 T p o) (fun v => some (.int (nI v), fp_m L R I J)) (a := 0) (n := T.2.1) (by omega) (fun i hi => absurd hi (Nat.not_lt_zero i)) (fun a _ ha => by
        rw [e_X5_firstThatShows_19, gi_T hr, hT.2.1, Option.bind_some, if_neg (nI_ge ha (by omega))]
        simp only [k_T hr, cond_true, c_firstOther hR hr hT hok h0 hp (show o < 3 by omega) (show a < 3 by omega), fp_oI', Option.bind_some, nI_1]
        unfold fp_P3
        cases e : fp_f1 (fp_P4 T p o a) T.1 with
        | none => rfl
        | some k =>
          have hk := fp_P4_in e
          simp only [Option.getD_some, Option.map_some]
          rw [if_neg (nI_nle (by omega) (by omega))]
          simp only [nm_27, nm_9, nm_3, nI_add])
      refine l3.trans ?_
      show _ = match fp_f1 (fp_P3 T p o) T.2.1 with
        | some v => _
        | none => _
      cases fp_f1 (fp_P3 T p o) T.2.1 with
      | some v => rfl
      | none =>
        show pm_res mX5_firstThatShows 19 _ _ _ = _
        rw [e_X5_firstThatShows_19, gi_T hr, hT.2.1, Option.bind_some, if_pos (nI_le (Nat.le_refl _) (by omega)), nI_1])
    refine l2.trans ?_
    show _ = match fp_f1 (fp_P2 T p) T.1 with
      | some v => _
      | none => _
    cases fp_f1 (fp_P2 T p) T.1 with
    | some v => rfl
    | none =>
      show pm_res mX5_firstThatShows 9 _ _ _ = _
      rw [e_X5_firstThatShows_9, gi_T hr, hT.1, Option.bind_some, if_pos (nI_le (Nat.le_refl _) (by omega)), nI_1])
  refine l1.trans ?_
  show _ = match fp_f1 (fp_P1 T) 2 with
    | some v => _
    | none => _
  cases fp_f1 (fp_P1 T) 2 with
  | some v => rfl
  | none =>
    show pm_res mX5_firstThatShows 2 _ _ _ = _
    rw [e_X5_firstThatShows_2, if_pos (fp_le (Nat.le_refl _) (by decide))]
theorem r_side (hR : fp_RK R) {t : Nat} (ht : t < 8) {T : fp_T} (hT : fp_mt I t T) (hok : fp_okT T) {p o k a : Nat} (hp : p < 2) (ho : o < 3) (hk : k < 3) (ha : a < 3) : pm_C mX7_side [.ref 45, .int (nI t), .int (nI p), .int (nI o), .int (nI a), .int (nI k)] (fp_m L R I J) = some (.long (lN (fp_mg T p o k a)), fp_m L R I J) := by
  have hb := fp_okT_q hok
  rw [e_X7_side]
  have key := fp_lp0 (fun i => pm_res mX7_side 6 [(0, .ref 45), (1, .int (nI t)), (2, .int (nI p)), (3, .int (nI o)), (4, .int (nI a)), (5, .int (nI k)), (6, .long (lN (fp_sm (fun b => T.2.2.2 (fp_sp p o k a b)) i))), (8, .int (nI i))] [] (fp_m L R I J)) 3 (fun i hi => by
    rw [e_X7_side_6, if_neg (fp_ge hi (by decide))]
    by_cases h : p = 0
    · rw [if_pos (fp_eqR h)]
      simp only [k_45, cond_true, r_get hR ht ho hk ha hi hT, fp_oI', Option.bind_some, nI_1]
      rw [nI_l (Nat.lt_of_le_of_lt (Nat.le_trans (hb.2.2.2 _) hb.2.2.1) (by decide)), lN_add]
      simp only [fp_sm, fp_sp, if_pos h]
    · rw [if_neg (fp_ne h (by omega) (by decide))]
      simp only [k_45, cond_true, r_get hR ht hk ho hi ha hT, fp_oI', Option.bind_some, nI_1]
      rw [nI_l (Nat.lt_of_le_of_lt (Nat.le_trans (hb.2.2.2 _) hb.2.2.1) (by decide)), lN_add]
      simp only [fp_sm, fp_sp, if_neg h])
  refine key.trans ?_
  rw [e_X7_side_6, if_pos (fp_le (Nat.le_refl _) (by decide))]
  rfl
theorem r_shows (hR : fp_RK R) {t : Nat} (ht : t < 8) {T : fp_T} (hT : fp_mt I t T) (hok : fp_okT T) (h0 : T.1 ≠ 0) : pm_C mX7_shows [.ref 45, .int (nI t)] (fp_m L R I J) = match fp_ww T with
    | some v => some (.long (lN v), fp_m L R I J)
    | none => some (.long pm_NONE, fp_m L R I J) := by
  have hq := fp_okT_q hok
  rw [e_X7_shows]
  have l1 := fp_lpo (fun p => pm_res mX7_shows 2 [(0, .ref 45), (1, .int (nI t)), (2, .int (nI p))] [] (fp_m L R I J)) (fp_P1 T) (fun v => some (.long (lN v), fp_m L R I J)) (a := 0) (n := 2) (by omega) (fun i hi => absurd hi (Nat.not_lt_zero i)) (fun p _ hp => by
    rw [e_X7_shows_2, if_neg (fp_ge hp (by decide))]
    have l2 := fp_lpo (fun o => pm_res mX7_shows 9 [(0, .ref 45), (1, .int (nI t)), (2, .int (nI p)), (3, .int (nI o))] [] (fp_m L R I J)) (fp_P2 T p) (fun v => some (.long (lN v), fp_m L R I J)) (a := 0) (n := T.1) (by omega) (fun i hi => absurd hi (Nat.not_lt_zero i)) (fun o _ ho => by
      rw [e_X7_shows_9]
      simp only [k_45, cond_true, r_q hR ht hT, fp_oI', Option.bind_some]
      rw [if_neg (nI_ge ho (by omega))]
      have l3 := fp_lpo (fun a => pm_res mX7_shows 21 [(0, .ref 45), (1, .int (nI t)), (2, .int (nI p)), (3, .int (nI o)), (4, .int (nI a))] [] (fp_m L R I J)) (fp_P3 T p o) (fun v => some (.long (lN v), fp_m L R I J)) (a := 0) (n := T.2.1) (by omega) (fun i hi => absurd hi (Nat.not_lt_zero i)) (fun a _ ha => by
        rw [e_X7_shows_21]
        simp only [k_45, cond_true, r_a hR ht hT, fp_oI', Option.bind_some]
        rw [if_neg (nI_ge ha (by omega))]
        have l4 := fp_lpo (fun k => pm_res mX7_shows 34 [(0, .ref 45), (1, .int (nI t)), (2, .int (nI p)), (3, .int (nI o)), (4, .int (nI a)), (5, .int (nI k))] [] (fp_m L R I J)) (fp_P4 T p o a) (fun k => some (.long (lN (27 * p + 9 * o + 3 * a + k)), fp_m L R I J)) (a := 1) (n := T.1) (by omega) (fun i hi => by unfold fp_P4; exact if_neg (by omega)) (fun k h1 h2 => by
          rw [e_X7_shows_34]
          simp only [k_45, cond_true, r_q hR ht hT, fp_oI', Option.bind_some]
          have hs0 : pm_C mX7_side [.ref 45, .int (nI t), .int (nI p), .int (nI o), .int (nI a), .int 0] (fp_m L R I J) = some (.long (lN (fp_mg T p o 0 a)), fp_m L R I J) := r_side hR ht hT hok hp (by omega) (by decide) (by omega)
          rw [if_neg (nI_ge h2 (by omega))]
          simp only [r_side hR ht hT hok hp (show o < 3 by omega) (show k < 3 by omega) (show a < 3 by omega), hs0, fp_oL', Option.bind_some, fp_cmp_eq, nI_1, k_45, cond_true]
          have b1 := fp_mg_le hok p o k a 3 (Nat.le_refl _)
          have b2 := fp_mg_le hok p o 0 a 3 (Nat.le_refl _)
          unfold fp_P4
          by_cases e : fp_mg T p o k a = fp_mg T p o 0 a
          · rw [if_pos (by rw [e]), if_neg (by intro q; exact q.2 e)]
          · rw [if_neg (by rw [lN_eq (by unfold fp_mg; omega) (by unfold fp_mg; omega)]; exact e), if_pos ⟨h1, e⟩]
            simp only [nI_l (show p < 2 ^ 31 by omega), nI_l (show o < 2 ^ 31 by omega), nI_l (show a < 2 ^ 31 by omega), nI_l (show k < 2 ^ 31 by omega), show (27 : Int64) = lN 27 from rfl, show (9 : Int64) = lN 9 from rfl, show (3 : Int64) = lN 3 from rfl, lN_mul, lN_add])
        refine l4.trans ?_
        unfold fp_P3
        cases e : fp_f1 (fp_P4 T p o a) T.1 with
        | some v => rfl
        | none =>
          show pm_res mX7_shows 34 _ _ _ = _
          rw [e_X7_shows_34]
          simp only [k_45, cond_true, r_q hR ht hT, fp_oI', Option.bind_some]
          rw [if_pos (nI_le (Nat.le_refl _) (by omega)), nI_1]
          rfl)
      refine l3.trans ?_
      show _ = match fp_f1 (fp_P3 T p o) T.2.1 with
        | some v => _
        | none => _
      cases fp_f1 (fp_P3 T p o) T.2.1 with
      | some v => rfl
      | none =>
        show pm_res mX7_shows 21 _ _ _ = _
        rw [e_X7_shows_21]
        simp only [k_45, cond_true, r_a hR ht hT, fp_oI', Option.bind_some]
        rw [if_pos (nI_le (Nat.le_refl _) (by omega)), nI_1])
    refine l2.trans ?_
    show _ = match fp_f1 (fp_P2 T p) T.1 with
      | some v => _
      | none => _
    cases fp_f1 (fp_P2 T p) T.1 with
    | some v => rfl
    | none =>
      show pm_res mX7_shows 9 _ _ _ = _
      rw [e_X7_shows_9]
      simp only [k_45, cond_true, r_q hR ht hT, fp_oI', Option.bind_some]
      rw [if_pos (nI_le (Nat.le_refl _) (by omega)), nI_1])
  refine l1.trans ?_
  show _ = match fp_f1 (fp_P1 T) 2 with
    | some v => _
    | none => _
  cases fp_f1 (fp_P1 T) 2 with
  | some v => rfl
  | none =>
    show pm_res mX7_shows 2 _ _ _ = _
    rw [e_X7_shows_2, if_pos (fp_le (Nat.le_refl _) (by decide))]
end FpShow
