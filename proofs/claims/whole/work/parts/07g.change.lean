/-! A CHANGE, on both sides -/
def fp_rw (T : fp_T) (o : Nat) : Int32 := if o = 0 then nI T.1 else if o = 1 then nI T.2.1 else if o = 2 then nI T.2.2.1 else nI (T.2.2.2 (o - 3))
theorem fp_flat_rw (tb : Nat → fp_T) (i : Nat) : fp_flat tb i = fp_rw (tb (i / 84)) (i % 84) := rfl
def fp_chg (S : fp_S) (t : Nat) (T : fp_T) : fp_S := (va_up S.1 t T, ((t, S.1 t) :: S.2.1).take 6, S.2.2)
theorem fp_und_take : ∀ (j k : Nat) (tb : Nat → fp_T) (h : List (Nat × fp_T)), j ≤ k → fp_und j tb (h.take k) = fp_und j tb h
  | 0, _, _, _, _ => rfl
  | j + 1, 0, _, _, hk => absurd hk (by omega)
  | j + 1, k + 1, tb, [], _ => rfl
  | j + 1, k + 1, tb, p :: h, hk => by
    show fp_und j _ (h.take k) = fp_und j _ h
    exact fp_und_take j k _ h (by omega)
theorem fp_und_chg (S : fp_S) (t : Nat) (T : fp_T) {j : Nat} (hj : j < 6) : fp_und (j + 1) (fp_chg S t T).1 (fp_chg S t T).2.1 = fp_und j S.1 S.2.1 := by
  show fp_und j (va_up (va_up S.1 t T) t (S.1 t)) (S.2.1.take 5) = _
  rw [bx_uu, fp_ups]
  exact fp_und_take j 5 _ _ (by omega)
theorem fp_chg_ok {S : fp_S} (h : fp_ok S) {t : Nat} (ht : t < 8) {T : fp_T} (hT : fp_okT T) : fp_ok (fp_chg S t T) := by
  obtain ⟨h1, ⟨h2, h3⟩, h4⟩ := h
  refine ⟨fun u hu => ?_, ⟨?_, fun p hp => ?_⟩, h4⟩
  · show fp_okT (va_up S.1 t T u)
    by_cases e : u = t
    · rw [e, pm_up_same]; exact hT
    · rw [pm_up_other _ _ e]; exact h1 u hu
  · show (List.take 6 _).length ≤ 6
    rw [List.length_take]
    omega
  · have hp := List.mem_of_mem_take hp
    rcases List.mem_cons.mp hp with rfl | hp
    · exact ⟨ht, h1 t ht⟩
    · exact h3 p hp
section FpChg
variable {L : Nat} {R : Nat → Nat → Option Nat}
/-- what a call of the class does, from S to S' -/
def fp_Cs (L : Nat) (R : Nat → Nat → Option Nat) (mc : Nat) (args : List Value) (S S' : fp_S) (v : Int64) : Prop := ∀ (I : Nat → Nat → Int32) (J : Nat → Nat → Int64), fp_CR S I → ∃ I1 J1, pm_C mc (.ref 1 :: args) (fp_m L R I J) = some (.long v, fp_m L R I1 J1) ∧ fp_CR S' I1 ∧ ∀ i, i = 0 ∨ 45 ≤ i → I1 i = I i
def fp_Ms (L : Nat) (R : Nat → Nat → Option Nat) (mr : Nat) (args : List Value) (S S' : fp_S) (v : Int64) : Prop := ∀ (I : Nat → Nat → Int32) (J : Nat → Nat → Int64), fp_MR S I → ∃ I1 J1, pm_C mr (.ref 45 :: args) (fp_m L R I J) = some (.long v, fp_m L R I1 J1) ∧ fp_MR S' I1 ∧ ∀ i, i < 45 → I1 i = I i
/-- both answer alike -/
def fp_Both (L : Nat) (R : Nat → Nat → Option Nat) (mc mr : Nat) (args : List Value) : Prop := ∀ S, fp_ok S → ∃ (S' : fp_S) (v : Int64), fp_ok S' ∧ fp_Cs L R mc args S S' v ∧ fp_Ms L R mr args S S' v
theorem fp_Cs.same {mc : Nat} {args : List Value} {S : fp_S} {v : Int64} (h : ∀ (I : Nat → Nat → Int32) (J : Nat → Nat → Int64), fp_CR S I → pm_C mc (.ref 1 :: args) (fp_m L R I J) = some (.long v, fp_m L R I J)) : fp_Cs L R mc args S S v := fun I J hC => ⟨I, J, h I J hC, hC, fun _ _ => rfl⟩
theorem fp_Ms.same {mr : Nat} {args : List Value} {S : fp_S} {v : Int64} (h : ∀ (I : Nat → Nat → Int32) (J : Nat → Nat → Int64), fp_MR S I → pm_C mr (.ref 45 :: args) (fp_m L R I J) = some (.long v, fp_m L R I J)) : fp_Ms L R mr args S S v := fun I J hC => ⟨I, J, h I J hC, hC, fun _ _ => rfl⟩
/-- the class's cells behind a change -/
theorem c_chg {S : fp_S} (hok : fp_ok S) {I I1 I2 : Nat → Nat → Int32} (hC : fp_CR S I) {t : Nat} (ht : t < 8) {T : fp_T} (hr : fp_ring I1 (((t, S.1 t) :: S.2.1).take 6)) (h1 : ∀ i, i < 19 ∨ 34 ≤ i → I1 i = I i) (hT : fp_at I2 (3 + 2 * t) T) (h2 : ∀ i, i ≠ 3 + 2 * t → i ≠ 3 + 2 * t + 1 → (i < 40 ∨ 45 ≤ i) → I2 i = I1 i) :
    fp_CR (fp_chg S t T) I2 ∧ ∀ i, i = 0 ∨ 45 ≤ i → I2 i = I i := by
  have hl := (fp_chg_ok hok ht (T := S.1 t) (hok.1 t ht)).2.1.1
  obtain ⟨g1, g2, ⟨g3, g4, g5⟩, n, num, g6, g7, g8, g9, g10⟩ := hC
  have e : ∀ i, 34 ≤ i → i < 40 → I2 i = I i := fun i a b => (h2 i (by omega) (by omega) (by omega)).trans (h1 i (by omega))
  refine ⟨⟨fun u hu => ?_, fp_ring_cong hr (fun i a b => h2 i (by omega) (by omega) (by omega)) hl, ⟨?_, ?_, fun k hk => ?_⟩, n, num, g6, ?_, fun i hi => ?_, g9, g10⟩, fun i hi => (h2 i (by omega) (by omega) (by omega)).trans (h1 i (by omega))⟩
  · show fp_at I2 (3 + 2 * u) (va_up S.1 t T u)
    by_cases eq : u = t
    · rw [eq, pm_up_same]; exact hT
    · rw [pm_up_other _ _ eq]
      exact fp_at_cong (g1 u hu) ((h2 _ (by omega) (by omega) (by omega)).trans (h1 _ (by omega))) ((h2 _ (by omega) (by omega) (by omega)).trans (h1 _ (by omega)))
  · rw [e 34 (by omega) (by omega)]; exact g3
  · rw [e 34 (by omega) (by omega)]; exact g4
  · rw [e 35 (by omega) (by omega)]; exact g5 k hk
  · rw [e 37 (by omega) (by omega)]; exact g7
  · rw [e 38 (by omega) (by omega), e 39 (by omega) (by omega)]; exact g8 i hi
/-- the reference's -/
theorem r_chg {S : fp_S} (hok : fp_ok S) {I I1 I2 : Nat → Nat → Int32} (hM : fp_MR S I) {t : Nat} (ht : t < 8) {T : fp_T} (k1 : I1 45 2 = nI (min 6 (S.2.1.length + 1))) (k2 : ∀ k, k ≠ 2 → I1 45 k = I 45 k) (k3 : ∀ i, i ≠ 45 → i ≠ 47 → I1 i = I i) (k4 : ∀ j, j < min 6 (S.2.1.length + 1) → ∀ i, i < 672 → I1 47 (672 * (min 6 (S.2.1.length + 1) - 1 - j) + i) = fp_flat (fp_und j S.1 S.2.1) i)
    (h46 : ∀ i, i < 672 → I2 46 i = if i / 84 = t then fp_rw T (i % 84) else I 46 i) (h2 : ∀ i, i ≠ 46 → i < 50 → I2 i = I1 i) : fp_MR (fp_chg S t T) I2 ∧ ∀ i, i < 45 → I2 i = I i := by
  obtain ⟨g1, ⟨g2, g3⟩, ⟨g4, g5, g6⟩, g7⟩ := hM
  have hlen : (fp_chg S t T).2.1.length = min 6 (S.2.1.length + 1) := by
    show (List.take 6 ((t, S.1 t) :: S.2.1)).length = _
    rw [List.length_take, List.length_cons]
  refine ⟨⟨fun i hi => ?_, ⟨?_, fun j hj i hi => ?_⟩, ⟨?_, ?_, fun k hk => ?_⟩, fun n hn => ?_⟩, fun i hi => (h2 i (by omega) (by omega)).trans (k3 i (by omega) (by omega))⟩
  · rw [h46 i hi, fp_flat_rw]
    show _ = fp_rw (va_up S.1 t T (i / 84)) (i % 84)
    by_cases e : i / 84 = t
    · rw [if_pos e, e, pm_up_same]
    · rw [if_neg e, pm_up_other _ _ e, g1 i hi, fp_flat_rw]
  · rw [h2 45 (by omega) (by omega), hlen]; exact k1
  · rw [hlen] at hj ⊢
    rw [h2 47 (by omega) (by omega), fp_und_chg S t T (by omega)]
    exact k4 j hj i hi
  · rw [h2 45 (by omega) (by omega), k2 3 (by decide)]; exact g4
  · rw [h2 45 (by omega) (by omega), k2 4 (by decide)]; exact g5
  · rw [h2 48 (by omega) (by omega), k3 48 (by omega) (by omega)]; exact g6 k hk
  · rw [h2 49 (by omega) (by omega), k3 49 (by omega) (by omega)]; exact g7 n hn
/-- a table of the reference laid empty -/
theorem r_empty (hR : fp_RK R) {I : Nat → Nat → Int32} {J : Nat → Nat → Int64} {t : Nat} (ht : t < 8) (q a w : Nat) : ∃ I', pm_C mX7_empty [.ref 45, .int (nI t), .int (nI q), .int (nI a), .int (nI w)] (fp_m L R I J) = some (.null, fp_m L R I' J) ∧ (∀ i, i < 672 → I' 46 i = if i / 84 = t then fp_rw (q, a, w, fun _ => 0) (i % 84) else I 46 i) ∧ ∀ i, i ≠ 46 → I' i = I i := by
  rw [e_X7_empty]
  simp only [gr_45_0 hR, Option.bind_some, nm_84, na_1, na_2]
  rw [si_46 (by omega)]
  simp only [Option.bind_some, gr_45_0 hR]
  rw [si_46 (by omega)]
  simp only [Option.bind_some, gr_45_0 hR]
  rw [si_46 (by omega)]
  simp only [Option.bind_some, pm_up_same, bx_uu]
  generalize hG : va_up (va_up (va_up (I 46) (84 * t) (nI q)) (84 * t + 1) (nI a)) (84 * t + 2) (nI w) = G
  have key := fp_lp0 (fun i => pm_res mX7_empty 38 [(0, .ref 45), (1, .int (nI t)), (5, .int (nI i))] [] (fp_m L R (va_up I 46 (fun j => if 84 * t + 3 ≤ j ∧ j < 84 * t + 3 + i then (fun _ => (0 : Int32)) (j - (84 * t + 3)) else G j)) J)) 81 (fun i hi => by
    rw [e_X7_empty_38, if_neg (fp_ge hi (by decide))]
    simp only [gr_45_0 hR, Option.bind_some, nm_84, na_3, nI_add]
    rw [si_46 (by omega)]
    simp only [Option.bind_some, pm_up_same, bx_uu, nI_1]
    rw [← fp_fw (fun _ => (0 : Int32)) G (84 * t + 3) i])
  rw [fp_fw0 (fun _ => (0 : Int32)) G (84 * t + 3)] at key
  rw [show (0 : Int32) = nI 0 from rfl] at key ⊢
  rw [key, e_X7_empty_38, if_pos (fp_le (Nat.le_refl _) (by decide))]
  refine ⟨_, rfl, fun i hi => ?_, fun i hi => pm_up_other _ _ hi⟩
  rw [pm_up_same]
  by_cases e : i / 84 = t
  · rw [if_pos e]
    unfold fp_rw
    by_cases e0 : i % 84 = 0
    · rw [if_pos e0, if_neg (by omega), ← hG]
      simp [va_up, show i = 84 * t by omega]
    · rw [if_neg e0]
      by_cases e1 : i % 84 = 1
      · rw [if_pos e1, if_neg (by omega), ← hG]
        simp [va_up, show i = 84 * t + 1 by omega]
      · rw [if_neg e1]
        by_cases e2 : i % 84 = 2
        · rw [if_pos e2, if_neg (by omega), ← hG]
          simp [va_up, show i = 84 * t + 2 by omega]
        · rw [if_neg e2, if_pos (by omega)]
  · rw [if_neg e, if_neg (by omega), ← hG]
    simp only [va_up]
    rw [if_neg (by omega), if_neg (by omega), if_neg (by omega)]
end FpChg
