/-! swap -/
def fp_sw (a b v : Nat) : Nat := if v = a then b else if v = b then a else v
def fp_mS (p o a b j : Nat) : Nat := if fp_O p j = o then fp_sp p o (fp_K p j) (fp_sw a b (fp_V p j)) (fp_E p j) else j
theorem fp_sw_lt {a b v n : Nat} (ha : a < n) (hb : b < n) (hv : v < n) : fp_sw a b v < n := by
  unfold fp_sw
  split
  · exact hb
  · split
    · exact ha
    · exact hv
theorem fp_sw_a (a b : Nat) : fp_sw a b a = b := if_pos rfl
theorem fp_sw_b (a b : Nat) : fp_sw a b b = a := by
  unfold fp_sw
  by_cases h : b = a
  · rw [if_pos h]; exact h
  · rw [if_neg h, if_pos rfl]
theorem fp_sw_n {a b v : Nat} (h1 : v ≠ a) (h2 : v ≠ b) : fp_sw a b v = v := by
  unfold fp_sw
  rw [if_neg h1, if_neg h2]
theorem fp_sw_lt' {a b v n : Nat} (ha : a < n) (hb : b < n) (h : fp_sw a b v < n) : v < n := by
  by_cases h1 : v = a
  · omega
  · by_cases h2 : v = b
    · omega
    · rw [fp_sw_n h1 h2] at h; exact h
theorem fp_mS_at {p o a b O K V E : Nat} (hO : O < 3) (hK : K < 3) (hV : V < 3) (hE : E < 3) : fp_mS p o a b (fp_sp p O K V E) = if O = o then fp_sp p o K (fp_sw a b V) E else fp_sp p O K V E := by
  obtain ⟨e1, e2, e3, e4⟩ := fp_spc (p := p) hO hK hV hE
  unfold fp_mS
  rw [e1, e2, e3, e4]
def fp_PS (p o a b A n j : Nat) : Bool := decide (fp_O p j = o ∧ (fp_V p j = a ∨ fp_V p j = b) ∧ fp_E p j < A ∧ 3 * fp_K p j + fp_E p j < n)
theorem fp_PS_at {p o a b A n O K V E : Nat} (hO : O < 3) (hK : K < 3) (hV : V < 3) (hE : E < 3) : fp_PS p o a b A n (fp_sp p O K V E) = decide (O = o ∧ (V = a ∨ V = b) ∧ E < A ∧ 3 * K + E < n) := by
  obtain ⟨e1, e2, e3, e4⟩ := fp_spc (p := p) hO hK hV hE
  unfold fp_PS
  rw [e1, e2, e3, e4]
theorem fp_mS_in {p q A o a b j : Nat} (ho : o < 3) (ha : a < A) (hb : b < A) (hA : A ≤ 3) (hj : j < 81) (h : fp_in q A (fp_mS p o a b j)) : fp_in q A j := by
  obtain ⟨O, K, V, E, hO, hK, hV, hE, rfl⟩ := fp_spd p hj
  rw [fp_mS_at hO hK hV hE] at h
  by_cases e : O = o
  · rw [if_pos e, fp_spin ho hK (fp_sw_lt (by omega) (by omega) hV) hE] at h
    rw [fp_spin hO hK hV hE]
    exact ⟨by omega, h.2.1, fp_sw_lt' ha hb h.2.2.1, h.2.2.2⟩
  · rw [if_neg e] at h; exact h
section FpSwap
variable {L : Nat} {R : Nat → Nat → Option Nat} {I : Nat → Nat → Int32} {J : Nat → Nat → Int64}
theorem c_exAnswers (hR : fp_RK R) {r q A w : Nat} {c : Nat → Nat} (hr : fp_tb r) (hT : fp_at I r (q, A, w, c)) (hok : fp_okT (q, A, w, c)) (h0 : q ≠ 0) {p o a b : Nat} (hp : p < 2) (ho : o < q) (ha : a < A) (hb : b < A) : ∃ I', pm_C mX5_exchangeAnswers [.ref r, .int (nI p), .int (nI o), .int (nI a), .int (nI b)] (fp_m L R I J) = some (.null, fp_m L R I' J) ∧ fp_at I' r (q, A, w, fp_mv (fp_mS p o a b) c) ∧ ∀ x, x ≠ r → x ≠ r + 1 → I' x = I x := by
  obtain ⟨q1, q2, q3, q4, q5, q6, q7, q8⟩ := fp_okT_1 hok h0
  simp only at q1 q2 q3 q4
  have inner : ∀ k (I' : Nat → Nat → Int32), k < q → (fp_at I' r (q, A, w, fp_ms (fp_mS p o a b) (fp_PS p o a b A (3 * k)) c) ∧ ∀ x, x ≠ r → x ≠ r + 1 → I' x = I x) → ∃ I2, (fp_at I2 r (q, A, w, fp_ms (fp_mS p o a b) (fp_PS p o a b A (3 * (k + 1))) c) ∧ ∀ x, x ≠ r → x ≠ r + 1 → I2 x = I x) ∧ pm_res mX5_exchangeAnswers 3 [(0, .ref r), (1, .int (nI p)), (2, .int (nI o)), (3, .int (nI a)), (4, .int (nI b)), (5, .int (nI k))] [] (fp_m L R I' J) = pm_res mX5_exchangeAnswers 3 [(0, .ref r), (1, .int (nI p)), (2, .int (nI o)), (3, .int (nI a)), (4, .int (nI b)), (5, .int (nI (k + 1)))] [] (fp_m L R I2 J) := by
    intro k I' hk hp'
    obtain ⟨I2, p2, e2⟩ := fp_li0 (fun e (I' : Nat → Nat → Int32) => pm_res mX5_exchangeAnswers 15 [(0, .ref r), (1, .int (nI p)), (2, .int (nI o)), (3, .int (nI a)), (4, .int (nI b)), (5, .int (nI k)), (6, .int (nI e))] [] (fp_m L R I' J)) (fun e I' => fp_at I' r (q, A, w, fp_ms (fp_mS p o a b) (fp_PS p o a b A (3 * k + e)) c) ∧ ∀ x, x ≠ r → x ≠ r + 1 → I' x = I x) A (fun e I' he ⟨pa, pf⟩ => by
      have s1 := fp_sp_lt (p := p) (show o < 3 by omega) (show k < 3 by omega) (show a < 3 by omega) (show e < 3 by omega)
      have s2 := fp_sp_lt (p := p) (show o < 3 by omega) (show k < 3 by omega) (show b < 3 by omega) (show e < 3 by omega)
      obtain ⟨I3, g1, g2, g3⟩ := c_exchange (L := L) (J := J) hR hr pa s1 s2
      refine ⟨I3, ⟨fp_at_cg g2 (fun j hj => fp_ms_up ?_ ?_ ?_ ?_ ?_), fun x h1 h2 => by rw [g3 x h1 h2, pf x h1 h2]⟩, ?_⟩
      · rw [fp_mS_at (by omega) (by omega) (by omega) (by omega), if_pos rfl, fp_sw_a]
      · rw [fp_mS_at (by omega) (by omega) (by omega) (by omega), if_pos rfl, fp_sw_b]
      · rw [fp_PS_at (by omega) (by omega) (by omega) (by omega)]; exact decide_eq_false (by omega)
      · rw [fp_PS_at (by omega) (by omega) (by omega) (by omega)]; exact decide_eq_false (by omega)
      · obtain ⟨O, K, V, E, hO, hK, hV, hE, rfl⟩ := fp_spd p hj
        rw [fp_PS_at hO hK hV hE, fp_PS_at hO hK hV hE, Bool.eq_iff_iff]
        simp only [Bool.or_eq_true, decide_eq_true_eq]
        rw [fp_spe hO hK hV hE (by omega) (by omega) (by omega) (by omega), fp_spe hO hK hV hE (by omega) (by omega) (by omega) (by omega)]
        clear s1 s2 g1 g2 g3 hj pa pf
        constructor
        · rintro ⟨t1, t2, t3, t4⟩
          rcases t2 with t2 | t2 <;> omega
        · rintro ((⟨t1, t2, t3, t4⟩ | ⟨t1, t2, t3, t4⟩) | ⟨t1, t2, t3, t4⟩)
          · exact ⟨t1, t2, t3, by omega⟩
          · exact ⟨t1, Or.inl t3, by omega, by omega⟩
          · exact ⟨t1, Or.inr t3, by omega, by omega⟩
      · rw [e_X5_exchangeAnswers_15, gi_T hr, pa.2.1, Option.bind_some, if_neg (nI_ge he (by omega))]
        simp only [c_spotOf _ hp, fp_oI', Option.bind_some, k_T hr, cond_true, g1, fp_oV', nI_1]) (s := I') hp'
    refine ⟨I2, ⟨fp_at_cg p2.1 (fun j hj => ?_), p2.2⟩, ?_⟩
    · unfold fp_ms
      rw [show fp_PS p o a b A (3 * k + A) j = fp_PS p o a b A (3 * (k + 1)) j from ?_]
      unfold fp_PS
      congr 1
      apply propext
      constructor
      · rintro ⟨t1, t2, t3, t4⟩; exact ⟨t1, t2, t3, by omega⟩
      · rintro ⟨t1, t2, t3, t4⟩; exact ⟨t1, t2, t3, by omega⟩
    · rw [e_X5_exchangeAnswers_3, gi_T hr, hp'.1.1, Option.bind_some, if_neg (nI_ge hk (by omega))]
      refine (show pm_res mX5_exchangeAnswers 15 [(0, .ref r), (1, .int (nI p)), (2, .int (nI o)), (3, .int (nI a)), (4, .int (nI b)), (5, .int (nI k)), (6, .int 0)] [] (fp_m L R I' J) = _ from e2).trans ?_
      rw [e_X5_exchangeAnswers_15, gi_T hr, p2.1.2.1, Option.bind_some, if_pos (nI_le (Nat.le_refl _) (by show A < 2 ^ 31; omega)), nI_1]
  obtain ⟨I2, p2, e2⟩ := fp_li0 (fun k (I' : Nat → Nat → Int32) => pm_res mX5_exchangeAnswers 3 [(0, .ref r), (1, .int (nI p)), (2, .int (nI o)), (3, .int (nI a)), (4, .int (nI b)), (5, .int (nI k))] [] (fp_m L R I' J)) (fun k I' => fp_at I' r (q, A, w, fp_ms (fp_mS p o a b) (fp_PS p o a b A (3 * k)) c) ∧ ∀ x, x ≠ r → x ≠ r + 1 → I' x = I x) q inner (s := I) ⟨fp_at_cg hT (fun j _ => by
    unfold fp_ms fp_PS
    rw [decide_eq_false (by rintro ⟨-, -, -, h⟩; omega)]
    rfl), fun _ _ _ => rfl⟩
  refine ⟨I2, ?_, fp_at_cg p2.1 (fun j hj => ?_), p2.2⟩
  · rw [e_X5_exchangeAnswers]
    refine (show pm_res mX5_exchangeAnswers 3 [(0, .ref r), (1, .int (nI p)), (2, .int (nI o)), (3, .int (nI a)), (4, .int (nI b)), (5, .int 0)] [] (fp_m L R I J) = _ from e2).trans ?_
    rw [e_X5_exchangeAnswers_3, gi_T hr, p2.1.1, Option.bind_some, if_pos (nI_le (Nat.le_refl _) (by show q < 2 ^ 31; omega))]
  · unfold fp_ms fp_mv
    rw [if_pos hj]
    obtain ⟨O, K, V, E, hO, hK, hV, hE, rfl⟩ := fp_spd p hj
    rw [fp_PS_at hO hK hV hE]
    by_cases h : O = o ∧ (V = a ∨ V = b) ∧ E < A ∧ 3 * K + E < 3 * q
    · rw [if_pos (decide_eq_true h)]
    · rw [if_neg (by rw [decide_eq_true_eq]; exact h), fp_mS_at hO hK hV hE]
      by_cases e1 : O = o
      · rw [if_pos e1]
        by_cases e2 : V = a ∨ V = b
        · have out : ∀ V', V' < 3 → c (fp_sp p o K V' E) = 0 := fun V' hV' => q8 _ (fun g => by
            rw [fp_spin (by omega) hK hV' hE] at g
            exact h ⟨e1, e2, g.2.2.2, by omega⟩)
          rw [e1, out V hV, out _ (fp_sw_lt (by omega) (by omega) hV)]
        · rw [fp_sw_n (fun g => e2 (Or.inl g)) (fun g => e2 (Or.inr g)), e1]
      · rw [if_neg e1]
theorem r_swapped (M : pm_M) {v a b : Nat} (hv : v < 3) (ha : a < 3) (hb : b < 3) : pm_C mX7_swapped [.int (nI v), .int (nI a), .int (nI b)] M = some (.int (nI (fp_sw a b v)), M) := by
  rw [e_X7_swapped]
  unfold fp_sw
  by_cases h1 : v = a
  · rw [if_pos (by rw [h1]), if_pos h1]
  · rw [if_neg (by rw [nI_eq (by omega) (by omega)]; exact h1), if_neg h1]
    by_cases h2 : v = b
    · rw [if_pos (by rw [h2]), if_pos h2]
    · rw [if_neg (by rw [nI_eq (by omega) (by omega)]; exact h2), if_neg h2]
end FpSwap
