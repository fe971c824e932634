/-! exchanges: swap, turn -/
def fp_O (p j : Nat) : Nat := if p = 0 then j / 27 else j / 9 % 3
def fp_K (p j : Nat) : Nat := if p = 0 then j / 9 % 3 else j / 27
def fp_V (p j : Nat) : Nat := if p = 0 then j / 3 % 3 else j % 3
def fp_E (p j : Nat) : Nat := if p = 0 then j % 3 else j / 3 % 3
theorem fp_spc {p o k v e : Nat} (ho : o < 3) (hk : k < 3) (hv : v < 3) (he : e < 3) : fp_O p (fp_sp p o k v e) = o ∧ fp_K p (fp_sp p o k v e) = k ∧ fp_V p (fp_sp p o k v e) = v ∧ fp_E p (fp_sp p o k v e) = e := by
  unfold fp_O fp_K fp_V fp_E fp_sp
  by_cases h : p = 0
  · simp only [if_pos h]
    obtain ⟨e1, e2, e3, e4, -⟩ := fp_jc (x := o) hk hv he
    exact ⟨e1, e2, e3, e4⟩
  · simp only [if_neg h]
    obtain ⟨e1, e2, e3, e4, -⟩ := fp_jc (x := k) ho he hv
    exact ⟨e2, e1, e4, e3⟩
theorem fp_spd (p : Nat) {j : Nat} (hj : j < 81) : ∃ o k v e, o < 3 ∧ k < 3 ∧ v < 3 ∧ e < 3 ∧ j = fp_sp p o k v e := by
  obtain ⟨x, y, a, b, hx, hy, ha, hb, rfl⟩ := fp_jd hj
  unfold fp_sp
  by_cases h : p = 0
  · exact ⟨x, y, a, b, hx, hy, ha, hb, by rw [if_pos h]⟩
  · exact ⟨y, x, b, a, hy, hx, hb, ha, by rw [if_neg h]⟩
theorem fp_spe {p o k v e o' k' v' e' : Nat} (ho : o < 3) (hk : k < 3) (hv : v < 3) (he : e < 3) (ho' : o' < 3) (hk' : k' < 3) (hv' : v' < 3) (he' : e' < 3) : fp_sp p o k v e = fp_sp p o' k' v' e' ↔ o = o' ∧ k = k' ∧ v = v' ∧ e = e' := by
  constructor
  · intro h
    obtain ⟨a1, a2, a3, a4⟩ := fp_spc (p := p) ho hk hv he
    obtain ⟨b1, b2, b3, b4⟩ := fp_spc (p := p) ho' hk' hv' he'
    rw [h] at a1 a2 a3 a4
    exact ⟨a1.symm.trans b1, a2.symm.trans b2, a3.symm.trans b3, a4.symm.trans b4⟩
  · rintro ⟨rfl, rfl, rfl, rfl⟩; rfl
theorem fp_spin {p q a o k v e : Nat} (ho : o < 3) (hk : k < 3) (hv : v < 3) (he : e < 3) : fp_in q a (fp_sp p o k v e) ↔ o < q ∧ k < q ∧ v < a ∧ e < a := by
  have hs := fp_sp_lt (p := p) ho hk hv he
  unfold fp_in
  unfold fp_sp at *
  by_cases h : p = 0
  · rw [if_pos h] at *
    obtain ⟨e1, e2, e3, e4, -⟩ := fp_jc (x := o) hk hv he
    rw [e1, e2, e3, e4]
    exact ⟨fun g => g.2, fun g => ⟨hs, g⟩⟩
  · rw [if_neg h] at *
    obtain ⟨e1, e2, e3, e4, -⟩ := fp_jc (x := k) ho he hv
    rw [e1, e2, e3, e4]
    exact ⟨fun g => ⟨g.2.2.1, g.2.1, g.2.2.2.2, g.2.2.2.1⟩, fun g => ⟨hs, g.2.1, g.1, g.2.2.2, g.2.2.1⟩⟩
/-- cells moved by m -/
def fp_mv (m : Nat → Nat) (c : Nat → Nat) (j : Nat) : Nat := if j < 81 then c (m j) else 0
theorem fp_mv_ok {q a w : Nat} {c : Nat → Nat} {m : Nat → Nat} (h : fp_okT (q, a, w, c)) (h0 : q ≠ 0) (hm : ∀ j, j < 81 → fp_in q a (m j) → fp_in q a j) : fp_okT (q, a, w, fp_mv m c) := by
  obtain ⟨q1, q2, q3, q4, q5, q6, q7, q8⟩ := fp_okT_1 h h0
  refine Or.inr ⟨q1, q2, q3, q4, q5, q6, fun j => ?_, fun j hj => ?_⟩
  · show fp_mv m c j ≤ w
    unfold fp_mv
    split
    · exact q7 _
    · exact Nat.zero_le _
  · show fp_mv m c j = 0
    unfold fp_mv
    by_cases h81 : j < 81
    · rw [if_pos h81]; exact q8 _ (fun g => hj (hm j h81 g))
    · rw [if_neg h81]
/-- moved as far as P says -/
def fp_ms (m : Nat → Nat) (P : Nat → Bool) (c : Nat → Nat) (j : Nat) : Nat := if P j = true then c (m j) else c j
theorem fp_ms_up {m : Nat → Nat} {P P' : Nat → Bool} {c : Nat → Nat} {i k : Nat} (hi : m i = k) (hk : m k = i) (pi : P i = false) (pk : P k = false) {j : Nat} (hP : P' j = (P j || decide (j = i) || decide (j = k))) : va_up (va_up (fp_ms m P c) i (fp_ms m P c k)) k (fp_ms m P c i) j = fp_ms m P' c j := by
  unfold fp_ms at *
  rw [pi, pk]
  unfold va_up
  by_cases e : j = k
  · rw [if_pos e, hP]
    simp [e, hk]
  · rw [if_neg e]
    by_cases e2 : j = i
    · show (if j = i then _ else _) = _
      rw [if_pos e2, hP]
      simp [e2, hi]
    · show (if j = i then _ else _) = _
      rw [if_neg e2, hP]
      simp [e, e2]
section FpEx
variable {L : Nat} {R : Nat → Nat → Option Nat} {I : Nat → Nat → Int32} {J : Nat → Nat → Int64}
theorem c_exchange (hR : fp_RK R) {r q a w : Nat} {c : Nat → Nat} (hr : fp_tb r) (hT : fp_at I r (q, a, w, c)) {i k : Nat} (hi : i < 81) (hk : k < 81) : ∃ I', pm_C mX5_exchange [.ref r, .int (nI i), .int (nI k)] (fp_m L R I J) = some (.null, fp_m L R I' J) ∧ fp_at I' r (q, a, w, va_up (va_up c i (c k)) k (c i)) ∧ ∀ x, x ≠ r → x ≠ r + 1 → I' x = I x := by
  refine ⟨_, ?_, fp_at_up (j := k) (v := c i) (fp_at_up (j := i) (v := c k) hT), fun x h1 h2 => by rw [pm_up_other _ _ h2, pm_up_other _ _ h2]⟩
  rw [e_X5_exchange]
  simp only [gr_T hR hr, Option.bind_some, ai_T hr hi, ai_T hr hk, si_T hr hi, si_T hr hk, hT.2.2.2 i hi, hT.2.2.2 k hk]
theorem r_takeAside (hR : fp_RK R) {t : Nat} (ht : t < 8) {T : fp_T} (h : fp_mt I t T) (hb : ∀ j, T.2.2.2 j < 2 ^ 31) : ∃ J', pm_C mX7_takeAside [.ref 45, .int (nI t)] (fp_m L R I J) = some (.null, fp_m L R I J') ∧ ∀ j, j < 81 → J' 50 j = lN (T.2.2.2 j) := by
  obtain ⟨J2, p2, e2⟩ := fp_li0 (fun i (J' : Nat → Nat → Int64) => pm_res mX7_takeAside 2 [(0, .ref 45), (1, .int (nI t)), (2, .int (nI i))] [] (fp_m L R I J')) (fun i J' => ∀ j, j < i → J' 50 j = lN (T.2.2.2 j)) 81 (fun i J' hi p => by
    refine ⟨va_up J' 50 (va_up (J' 50) i (lN (T.2.2.2 i))), fun j hj => ?_, ?_⟩
    · rw [pm_up_same]
      by_cases e : j = i
      · rw [e, pm_up_same]
      · rw [pm_up_other _ _ e]; exact p j (by omega)
    · rw [e_X7_takeAside_2, if_neg (fp_ge hi (by decide))]
      simp only [gr_45_7 hR, gr_45_0 hR, Option.bind_some, nm_84, na_3, nI_add, na_1]
      rw [r_cell hR ht hi h]
      simp only [Option.bind_some]
      rw [si_50 hi, nI_l (hb i)]
      rfl) (s := J) (fun j hj => absurd hj (Nat.not_lt_zero j))
  refine ⟨J2, ?_, p2⟩
  rw [e_X7_takeAside]
  refine (show pm_res mX7_takeAside 2 [(0, .ref 45), (1, .int (nI t)), (2, .int 0)] [] (fp_m L R I J) = _ from e2).trans ?_
  rw [e_X7_takeAside_2, if_pos (fp_le (Nat.le_refl _) (by decide))]
end FpEx
