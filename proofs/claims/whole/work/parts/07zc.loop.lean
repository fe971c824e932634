/-! the law's loop, and the law -/
section FpLoop
variable {L : Nat} {R : Nat → Nat → Option Nat}
theorem fp_stp {mc mr : Nat} {args : List Value} (hB : fp_Both L R mc mr args) {S : fp_S} (hok : fp_ok S) {I : Nat → Nat → Int32} {J : Nat → Nat → Int64} (hC : fp_CR S I) (hM : fp_MR S I) : ∃ (S' : fp_S) (v : Int64) (I1 : Nat → Nat → Int32) (J1 : Nat → Nat → Int64) (I2 : Nat → Nat → Int32) (J2 : Nat → Nat → Int64), pm_C mc (.ref 1 :: args) (fp_m L R I J) = some (.long v, fp_m L R I1 J1) ∧ pm_C mr (.ref 45 :: args) (fp_m L R I1 J1) = some (.long v, fp_m L R I2 J2) ∧ fp_ok S' ∧ fp_CR S' I2 ∧ fp_MR S' I2 ∧ I1 0 = I 0 ∧ I2 0 = I 0 := by
  obtain ⟨S', v, ok', hc, hm⟩ := hB S hok
  obtain ⟨I1, J1, c1, c2, c3⟩ := hc I J hC
  obtain ⟨I2, J2, d1, d2, d3⟩ := hm I1 J1 (fp_MR_cong hM (fun i h1 _ => c3 i (Or.inr h1)))
  have z1 : I1 0 = I 0 := c3 0 (Or.inl rfl)
  exact ⟨S', v, I1, J1, I2, J2, c1, d1, ok', fp_CR_cong c2 ok'.2.1.1 (fun i _ h => d3 i (by omega)), d2, z1, (d3 0 (by decide)).trans z1⟩
theorem fp_more {i : Nat} (hL : L ≤ 2560) (hi : i ≤ 2560) : (nI L - 5 < nI i) ↔ L < i + 5 := by
  rw [Int32.lt_iff_toInt_lt, show (5 : Int32) = nI 5 from rfl, pk_sub_toInt (by omega) (by decide), nI_toInt (by omega)]
  omega
/-- from place i on, whatever both hold, the law comes to its end with 1 -/
def fp_goes (L : Nat) (R : Nat → Nat → Option Nat) (X : Nat → Int32) (i : Nat) : Prop := ∀ (S : fp_S) (I : Nat → Nat → Int32) (J : Nat → Nat → Int64), fp_ok S → fp_CR S I → fp_MR S I → I 0 = X → ∃ I' J', pm_res mL_law 18 [(0, .ref 0), (1, .ref 1), (2, .ref 45), (3, .int (nI i))] [] (fp_m L R I J) = some (.int 1, fp_m L R I' J')
theorem l_shape (hR : fp_RK R) {X : Nat → Int32} {i : Nat} (hL : L ≤ 2560) (hi : i + 5 ≤ L) (ih : fp_goes L R X (i + 5)) {S : fp_S} {I : Nat → Nat → Int32} {J : Nat → Nat → Int64} (hok : fp_ok S) (hC : fp_CR S I) (hM : fp_MR S I) (hX : I 0 = X) : ∃ I' J', ((pm_aI (fp_m L R I J) 0 (nI i + 1)).bind fun g1 => (pm_aI (fp_m L R I J) 0 (nI i + 2)).bind fun g2 => (pm_aI (fp_m L R I J) 0 (nI i + 3)).bind fun g3 => (pm_aI (fp_m L R I J) 0 (nI i + 4)).bind fun g4 => bif pm_kd (fp_m L R I J) 6 1 then ((pm_oL (pm_C mX6_shape [.ref 1, .int g1, .int g2, .int g3, .int g4] (fp_m L R I J))).bind fun q => (pm_aI q.2 0 (nI i + 1)).bind fun h1 => (pm_aI q.2 0 (nI i + 2)).bind fun h2 => (pm_aI q.2 0 (nI i + 3)).bind fun h3 => (pm_aI q.2 0 (nI i + 4)).bind fun h4 => bif pm_kd q.2 7 45 then ((pm_oL (pm_C mX7_shape [.ref 45, .int h1, .int h2, .int h3, .int h4] q.2)).bind fun q2 => if (lg_cmp q.1 q2.1) = 0 then (pm_res mL_law 18 [(0, .ref 0), (1, .ref 1), (2, .ref 45), (3, .int (nI i + 5))] [] q2.2) else (some (.int 0, q2.2))) else none) else none) = some (.int 1, fp_m L R I' J') := by
  obtain ⟨S', v, I1, J1, I2, J2, c1, d1, ok', hC', hM', z1, z2⟩ := fp_stp (J := J) (b_shape (L := L) hR (X (i + 1)) (X (i + 2)) (X (i + 3)) (X (i + 4))) hok hC hM
  rw [hX] at z1 z2
  obtain ⟨I', J', e⟩ := ih S' I2 J2 ok' hC' hM' z2
  refine ⟨I', J', ?_⟩
  have ra : ∀ (I : Nat → Nat → Int32) (J : Nat → Nat → Int64), I 0 = X → ∀ k, k < 5 → pm_aI (fp_m L R I J) 0 (nI (i + k)) = some (X (i + k)) := fun I J h k hk => by rw [ai_0 (by omega) (by omega), h]
  simp only [na_1, na_2, na_3, na_4, k_1, k_45, cond_true, Option.bind_some, c1, d1, fp_oL', ra I J hX 1 (by decide), ra I J hX 2 (by decide), ra I J hX 3 (by decide), ra I J hX 4 (by decide), ra I1 J1 z1 1 (by decide), ra I1 J1 z1 2 (by decide), ra I1 J1 z1 3 (by decide), ra I1 J1 z1 4 (by decide), na_5]
  rw [if_pos (fp_cmp_eq.mpr rfl)]
  exact e
theorem l_lose (hR : fp_RK R) {X : Nat → Int32} {i : Nat} (hL : L ≤ 2560) (hi : i + 5 ≤ L) (ih : fp_goes L R X (i + 5)) {S : fp_S} {I : Nat → Nat → Int32} {J : Nat → Nat → Int64} (hok : fp_ok S) (hC : fp_CR S I) (hM : fp_MR S I) (hX : I 0 = X) : ∃ I' J', ((pm_aI (fp_m L R I J) 0 (nI i + 1)).bind fun g1 => bif pm_kd (fp_m L R I J) 6 1 then ((pm_oL (pm_C mX6_lose [.ref 1, .int g1] (fp_m L R I J))).bind fun q => (pm_aI q.2 0 (nI i + 1)).bind fun h1 => bif pm_kd q.2 7 45 then ((pm_oL (pm_C mX7_lose [.ref 45, .int h1] q.2)).bind fun q2 => if (lg_cmp q.1 q2.1) = 0 then (pm_res mL_law 18 [(0, .ref 0), (1, .ref 1), (2, .ref 45), (3, .int (nI i + 5))] [] q2.2) else (some (.int 0, q2.2))) else none) else none) = some (.int 1, fp_m L R I' J') := by
  obtain ⟨S', v, I1, J1, I2, J2, c1, d1, ok', hC', hM', z1, z2⟩ := fp_stp (J := J) (b_lose (L := L) hR (X (i + 1))) hok hC hM
  rw [hX] at z1 z2
  obtain ⟨I', J', e⟩ := ih S' I2 J2 ok' hC' hM' z2
  refine ⟨I', J', ?_⟩
  have ra : ∀ (I : Nat → Nat → Int32) (J : Nat → Nat → Int64), I 0 = X → ∀ k, k < 5 → pm_aI (fp_m L R I J) 0 (nI (i + k)) = some (X (i + k)) := fun I J h k hk => by rw [ai_0 (by omega) (by omega), h]
  simp only [na_1, na_2, na_3, na_4, k_1, k_45, cond_true, Option.bind_some, c1, d1, fp_oL', ra I J hX 1 (by decide), ra I1 J1 z1 1 (by decide), na_5]
  rw [if_pos (fp_cmp_eq.mpr rfl)]
  exact e
theorem l_cell (hR : fp_RK R) {X : Nat → Int32} {i : Nat} (hL : L ≤ 2560) (hi : i + 5 ≤ L) (ih : fp_goes L R X (i + 5)) {S : fp_S} {I : Nat → Nat → Int32} {J : Nat → Nat → Int64} (hok : fp_ok S) (hC : fp_CR S I) (hM : fp_MR S I) (hX : I 0 = X) : ∃ I' J', ((pm_aI (fp_m L R I J) 0 (nI i + 1)).bind fun g1 => (pm_aI (fp_m L R I J) 0 (nI i + 2)).bind fun g2 => (pm_aI (fp_m L R I J) 0 (nI i + 3)).bind fun g3 => (pm_aI (fp_m L R I J) 0 (nI i + 4)).bind fun g4 => bif pm_kd (fp_m L R I J) 6 1 then ((pm_oL (pm_C mX6_cell [.ref 1, .int g1, .int g2, .int g3, .int g4] (fp_m L R I J))).bind fun q => (pm_aI q.2 0 (nI i + 1)).bind fun h1 => (pm_aI q.2 0 (nI i + 2)).bind fun h2 => (pm_aI q.2 0 (nI i + 3)).bind fun h3 => (pm_aI q.2 0 (nI i + 4)).bind fun h4 => bif pm_kd q.2 7 45 then ((pm_oL (pm_C mX7_cell [.ref 45, .int h1, .int h2, .int h3, .int h4] q.2)).bind fun q2 => if (lg_cmp q.1 q2.1) = 0 then (pm_res mL_law 18 [(0, .ref 0), (1, .ref 1), (2, .ref 45), (3, .int (nI i + 5))] [] q2.2) else (some (.int 0, q2.2))) else none) else none) = some (.int 1, fp_m L R I' J') := by
  obtain ⟨S', v, I1, J1, I2, J2, c1, d1, ok', hC', hM', z1, z2⟩ := fp_stp (J := J) (b_cell (L := L) hR (X (i + 1)) (X (i + 2)) (X (i + 3)) (X (i + 4))) hok hC hM
  rw [hX] at z1 z2
  obtain ⟨I', J', e⟩ := ih S' I2 J2 ok' hC' hM' z2
  refine ⟨I', J', ?_⟩
  have ra : ∀ (I : Nat → Nat → Int32) (J : Nat → Nat → Int64), I 0 = X → ∀ k, k < 5 → pm_aI (fp_m L R I J) 0 (nI (i + k)) = some (X (i + k)) := fun I J h k hk => by rw [ai_0 (by omega) (by omega), h]
  simp only [na_1, na_2, na_3, na_4, k_1, k_45, cond_true, Option.bind_some, c1, d1, fp_oL', ra I J hX 1 (by decide), ra I J hX 2 (by decide), ra I J hX 3 (by decide), ra I J hX 4 (by decide), ra I1 J1 z1 1 (by decide), ra I1 J1 z1 2 (by decide), ra I1 J1 z1 3 (by decide), ra I1 J1 z1 4 (by decide), na_5]
  rw [if_pos (fp_cmp_eq.mpr rfl)]
  exact e
theorem l_sure (hR : fp_RK R) {X : Nat → Int32} {i : Nat} (hL : L ≤ 2560) (hi : i + 5 ≤ L) (ih : fp_goes L R X (i + 5)) {S : fp_S} {I : Nat → Nat → Int32} {J : Nat → Nat → Int64} (hok : fp_ok S) (hC : fp_CR S I) (hM : fp_MR S I) (hX : I 0 = X) : ∃ I' J', ((pm_aI (fp_m L R I J) 0 (nI i + 1)).bind fun g1 => (pm_aI (fp_m L R I J) 0 (nI i + 2)).bind fun g2 => (pm_aI (fp_m L R I J) 0 (nI i + 3)).bind fun g3 => (pm_aI (fp_m L R I J) 0 (nI i + 4)).bind fun g4 => bif pm_kd (fp_m L R I J) 6 1 then ((pm_oL (pm_C mX6_sure [.ref 1, .int g1, .int g2, .int g3, .int g4] (fp_m L R I J))).bind fun q => (pm_aI q.2 0 (nI i + 1)).bind fun h1 => (pm_aI q.2 0 (nI i + 2)).bind fun h2 => (pm_aI q.2 0 (nI i + 3)).bind fun h3 => (pm_aI q.2 0 (nI i + 4)).bind fun h4 => bif pm_kd q.2 7 45 then ((pm_oL (pm_C mX7_sure [.ref 45, .int h1, .int h2, .int h3, .int h4] q.2)).bind fun q2 => if (lg_cmp q.1 q2.1) = 0 then (pm_res mL_law 18 [(0, .ref 0), (1, .ref 1), (2, .ref 45), (3, .int (nI i + 5))] [] q2.2) else (some (.int 0, q2.2))) else none) else none) = some (.int 1, fp_m L R I' J') := by
  obtain ⟨S', v, I1, J1, I2, J2, c1, d1, ok', hC', hM', z1, z2⟩ := fp_stp (J := J) (b_sure (L := L) hR (X (i + 1)) (X (i + 2)) (X (i + 3)) (X (i + 4))) hok hC hM
  rw [hX] at z1 z2
  obtain ⟨I', J', e⟩ := ih S' I2 J2 ok' hC' hM' z2
  refine ⟨I', J', ?_⟩
  have ra : ∀ (I : Nat → Nat → Int32) (J : Nat → Nat → Int64), I 0 = X → ∀ k, k < 5 → pm_aI (fp_m L R I J) 0 (nI (i + k)) = some (X (i + k)) := fun I J h k hk => by rw [ai_0 (by omega) (by omega), h]
  simp only [na_1, na_2, na_3, na_4, k_1, k_45, cond_true, Option.bind_some, c1, d1, fp_oL', ra I J hX 1 (by decide), ra I J hX 2 (by decide), ra I J hX 3 (by decide), ra I J hX 4 (by decide), ra I1 J1 z1 1 (by decide), ra I1 J1 z1 2 (by decide), ra I1 J1 z1 3 (by decide), ra I1 J1 z1 4 (by decide), na_5]
  rw [if_pos (fp_cmp_eq.mpr rfl)]
  exact e
theorem l_corner (hR : fp_RK R) {X : Nat → Int32} {i : Nat} (hL : L ≤ 2560) (hi : i + 5 ≤ L) (ih : fp_goes L R X (i + 5)) {S : fp_S} {I : Nat → Nat → Int32} {J : Nat → Nat → Int64} (hok : fp_ok S) (hC : fp_CR S I) (hM : fp_MR S I) (hX : I 0 = X) : ∃ I' J', ((pm_aI (fp_m L R I J) 0 (nI i + 1)).bind fun g1 => (pm_aI (fp_m L R I J) 0 (nI i + 2)).bind fun g2 => bif pm_kd (fp_m L R I J) 6 1 then ((pm_oL (pm_C mX6_corner [.ref 1, .int g1, .int g2] (fp_m L R I J))).bind fun q => (pm_aI q.2 0 (nI i + 1)).bind fun h1 => (pm_aI q.2 0 (nI i + 2)).bind fun h2 => bif pm_kd q.2 7 45 then ((pm_oL (pm_C mX7_corner [.ref 45, .int h1, .int h2] q.2)).bind fun q2 => if (lg_cmp q.1 q2.1) = 0 then (pm_res mL_law 18 [(0, .ref 0), (1, .ref 1), (2, .ref 45), (3, .int (nI i + 5))] [] q2.2) else (some (.int 0, q2.2))) else none) else none) = some (.int 1, fp_m L R I' J') := by
  obtain ⟨S', v, I1, J1, I2, J2, c1, d1, ok', hC', hM', z1, z2⟩ := fp_stp (J := J) (b_corner (L := L) hR (X (i + 1)) (X (i + 2))) hok hC hM
  rw [hX] at z1 z2
  obtain ⟨I', J', e⟩ := ih S' I2 J2 ok' hC' hM' z2
  refine ⟨I', J', ?_⟩
  have ra : ∀ (I : Nat → Nat → Int32) (J : Nat → Nat → Int64), I 0 = X → ∀ k, k < 5 → pm_aI (fp_m L R I J) 0 (nI (i + k)) = some (X (i + k)) := fun I J h k hk => by rw [ai_0 (by omega) (by omega), h]
  simp only [na_1, na_2, na_3, na_4, k_1, k_45, cond_true, Option.bind_some, c1, d1, fp_oL', ra I J hX 1 (by decide), ra I J hX 2 (by decide), ra I1 J1 z1 1 (by decide), ra I1 J1 z1 2 (by decide), na_5]
  rw [if_pos (fp_cmp_eq.mpr rfl)]
  exact e
theorem l_about (hR : fp_RK R) {X : Nat → Int32} {i : Nat} (hL : L ≤ 2560) (hi : i + 5 ≤ L) (ih : fp_goes L R X (i + 5)) {S : fp_S} {I : Nat → Nat → Int32} {J : Nat → Nat → Int64} (hok : fp_ok S) (hC : fp_CR S I) (hM : fp_MR S I) (hX : I 0 = X) : ∃ I' J', ((pm_aI (fp_m L R I J) 0 (nI i + 1)).bind fun g1 => (pm_aI (fp_m L R I J) 0 (nI i + 2)).bind fun g2 => bif pm_kd (fp_m L R I J) 6 1 then ((pm_oL (pm_C mX6_about [.ref 1, .int g1, .int g2] (fp_m L R I J))).bind fun q => (pm_aI q.2 0 (nI i + 1)).bind fun h1 => (pm_aI q.2 0 (nI i + 2)).bind fun h2 => bif pm_kd q.2 7 45 then ((pm_oL (pm_C mX7_about [.ref 45, .int h1, .int h2] q.2)).bind fun q2 => if (lg_cmp q.1 q2.1) = 0 then (pm_res mL_law 18 [(0, .ref 0), (1, .ref 1), (2, .ref 45), (3, .int (nI i + 5))] [] q2.2) else (some (.int 0, q2.2))) else none) else none) = some (.int 1, fp_m L R I' J') := by
  obtain ⟨S', v, I1, J1, I2, J2, c1, d1, ok', hC', hM', z1, z2⟩ := fp_stp (J := J) (b_about (L := L) hR (X (i + 1)) (X (i + 2))) hok hC hM
  rw [hX] at z1 z2
  obtain ⟨I', J', e⟩ := ih S' I2 J2 ok' hC' hM' z2
  refine ⟨I', J', ?_⟩
  have ra : ∀ (I : Nat → Nat → Int32) (J : Nat → Nat → Int64), I 0 = X → ∀ k, k < 5 → pm_aI (fp_m L R I J) 0 (nI (i + k)) = some (X (i + k)) := fun I J h k hk => by rw [ai_0 (by omega) (by omega), h]
  simp only [na_1, na_2, na_3, na_4, k_1, k_45, cond_true, Option.bind_some, c1, d1, fp_oL', ra I J hX 1 (by decide), ra I J hX 2 (by decide), ra I1 J1 z1 1 (by decide), ra I1 J1 z1 2 (by decide), na_5]
  rw [if_pos (fp_cmp_eq.mpr rfl)]
  exact e
theorem l_chance (hR : fp_RK R) {X : Nat → Int32} {i : Nat} (hL : L ≤ 2560) (hi : i + 5 ≤ L) (ih : fp_goes L R X (i + 5)) {S : fp_S} {I : Nat → Nat → Int32} {J : Nat → Nat → Int64} (hok : fp_ok S) (hC : fp_CR S I) (hM : fp_MR S I) (hX : I 0 = X) : ∃ I' J', ((pm_aI (fp_m L R I J) 0 (nI i + 1)).bind fun g1 => (pm_aI (fp_m L R I J) 0 (nI i + 2)).bind fun g2 => (pm_aI (fp_m L R I J) 0 (nI i + 3)).bind fun g3 => bif pm_kd (fp_m L R I J) 6 1 then ((pm_oL (pm_C mX6_chance [.ref 1, .int g1, .int g2, .int g3] (fp_m L R I J))).bind fun q => (pm_aI q.2 0 (nI i + 1)).bind fun h1 => (pm_aI q.2 0 (nI i + 2)).bind fun h2 => (pm_aI q.2 0 (nI i + 3)).bind fun h3 => bif pm_kd q.2 7 45 then ((pm_oL (pm_C mX7_chance [.ref 45, .int h1, .int h2, .int h3] q.2)).bind fun q2 => if (lg_cmp q.1 q2.1) = 0 then (pm_res mL_law 18 [(0, .ref 0), (1, .ref 1), (2, .ref 45), (3, .int (nI i + 5))] [] q2.2) else (some (.int 0, q2.2))) else none) else none) = some (.int 1, fp_m L R I' J') := by
  obtain ⟨S', v, I1, J1, I2, J2, c1, d1, ok', hC', hM', z1, z2⟩ := fp_stp (J := J) (b_chance (L := L) hR (X (i + 1)) (X (i + 2)) (X (i + 3))) hok hC hM
  rw [hX] at z1 z2
  obtain ⟨I', J', e⟩ := ih S' I2 J2 ok' hC' hM' z2
  refine ⟨I', J', ?_⟩
  have ra : ∀ (I : Nat → Nat → Int32) (J : Nat → Nat → Int64), I 0 = X → ∀ k, k < 5 → pm_aI (fp_m L R I J) 0 (nI (i + k)) = some (X (i + k)) := fun I J h k hk => by rw [ai_0 (by omega) (by omega), h]
  simp only [na_1, na_2, na_3, na_4, k_1, k_45, cond_true, Option.bind_some, c1, d1, fp_oL', ra I J hX 1 (by decide), ra I J hX 2 (by decide), ra I J hX 3 (by decide), ra I1 J1 z1 1 (by decide), ra I1 J1 z1 2 (by decide), ra I1 J1 z1 3 (by decide), na_5]
  rw [if_pos (fp_cmp_eq.mpr rfl)]
  exact e
theorem l_swap (hR : fp_RK R) {X : Nat → Int32} {i : Nat} (hL : L ≤ 2560) (hi : i + 5 ≤ L) (ih : fp_goes L R X (i + 5)) {S : fp_S} {I : Nat → Nat → Int32} {J : Nat → Nat → Int64} (hok : fp_ok S) (hC : fp_CR S I) (hM : fp_MR S I) (hX : I 0 = X) : ∃ I' J', ((pm_aI (fp_m L R I J) 0 (nI i + 1)).bind fun g1 => (pm_aI (fp_m L R I J) 0 (nI i + 2)).bind fun g2 => (pm_aI (fp_m L R I J) 0 (nI i + 3)).bind fun g3 => (pm_aI (fp_m L R I J) 0 (nI i + 4)).bind fun g4 => bif pm_kd (fp_m L R I J) 6 1 then ((pm_oL (pm_C mX6_swap [.ref 1, .int g1, .int g2, .int g3, .int g4] (fp_m L R I J))).bind fun q => (pm_aI q.2 0 (nI i + 1)).bind fun h1 => (pm_aI q.2 0 (nI i + 2)).bind fun h2 => (pm_aI q.2 0 (nI i + 3)).bind fun h3 => (pm_aI q.2 0 (nI i + 4)).bind fun h4 => bif pm_kd q.2 7 45 then ((pm_oL (pm_C mX7_swap [.ref 45, .int h1, .int h2, .int h3, .int h4] q.2)).bind fun q2 => if (lg_cmp q.1 q2.1) = 0 then (pm_res mL_law 18 [(0, .ref 0), (1, .ref 1), (2, .ref 45), (3, .int (nI i + 5))] [] q2.2) else (some (.int 0, q2.2))) else none) else none) = some (.int 1, fp_m L R I' J') := by
  obtain ⟨S', v, I1, J1, I2, J2, c1, d1, ok', hC', hM', z1, z2⟩ := fp_stp (J := J) (b_swap (L := L) hR (X (i + 1)) (X (i + 2)) (X (i + 3)) (X (i + 4))) hok hC hM
  rw [hX] at z1 z2
  obtain ⟨I', J', e⟩ := ih S' I2 J2 ok' hC' hM' z2
  refine ⟨I', J', ?_⟩
  have ra : ∀ (I : Nat → Nat → Int32) (J : Nat → Nat → Int64), I 0 = X → ∀ k, k < 5 → pm_aI (fp_m L R I J) 0 (nI (i + k)) = some (X (i + k)) := fun I J h k hk => by rw [ai_0 (by omega) (by omega), h]
  simp only [na_1, na_2, na_3, na_4, k_1, k_45, cond_true, Option.bind_some, c1, d1, fp_oL', ra I J hX 1 (by decide), ra I J hX 2 (by decide), ra I J hX 3 (by decide), ra I J hX 4 (by decide), ra I1 J1 z1 1 (by decide), ra I1 J1 z1 2 (by decide), ra I1 J1 z1 3 (by decide), ra I1 J1 z1 4 (by decide), na_5]
  rw [if_pos (fp_cmp_eq.mpr rfl)]
  exact e
theorem l_turn (hR : fp_RK R) {X : Nat → Int32} {i : Nat} (hL : L ≤ 2560) (hi : i + 5 ≤ L) (ih : fp_goes L R X (i + 5)) {S : fp_S} {I : Nat → Nat → Int32} {J : Nat → Nat → Int64} (hok : fp_ok S) (hC : fp_CR S I) (hM : fp_MR S I) (hX : I 0 = X) : ∃ I' J', ((pm_aI (fp_m L R I J) 0 (nI i + 1)).bind fun g1 => (pm_aI (fp_m L R I J) 0 (nI i + 2)).bind fun g2 => bif pm_kd (fp_m L R I J) 6 1 then ((pm_oL (pm_C mX6_turn [.ref 1, .int g1, .int g2] (fp_m L R I J))).bind fun q => (pm_aI q.2 0 (nI i + 1)).bind fun h1 => (pm_aI q.2 0 (nI i + 2)).bind fun h2 => bif pm_kd q.2 7 45 then ((pm_oL (pm_C mX7_turn [.ref 45, .int h1, .int h2] q.2)).bind fun q2 => if (lg_cmp q.1 q2.1) = 0 then (pm_res mL_law 18 [(0, .ref 0), (1, .ref 1), (2, .ref 45), (3, .int (nI i + 5))] [] q2.2) else (some (.int 0, q2.2))) else none) else none) = some (.int 1, fp_m L R I' J') := by
  obtain ⟨S', v, I1, J1, I2, J2, c1, d1, ok', hC', hM', z1, z2⟩ := fp_stp (J := J) (b_turn (L := L) hR (X (i + 1)) (X (i + 2))) hok hC hM
  rw [hX] at z1 z2
  obtain ⟨I', J', e⟩ := ih S' I2 J2 ok' hC' hM' z2
  refine ⟨I', J', ?_⟩
  have ra : ∀ (I : Nat → Nat → Int32) (J : Nat → Nat → Int64), I 0 = X → ∀ k, k < 5 → pm_aI (fp_m L R I J) 0 (nI (i + k)) = some (X (i + k)) := fun I J h k hk => by rw [ai_0 (by omega) (by omega), h]
  simp only [na_1, na_2, na_3, na_4, k_1, k_45, cond_true, Option.bind_some, c1, d1, fp_oL', ra I J hX 1 (by decide), ra I J hX 2 (by decide), ra I1 J1 z1 1 (by decide), ra I1 J1 z1 2 (by decide), na_5]
  rw [if_pos (fp_cmp_eq.mpr rfl)]
  exact e
theorem l_same (hR : fp_RK R) {X : Nat → Int32} {i : Nat} (hL : L ≤ 2560) (hi : i + 5 ≤ L) (ih : fp_goes L R X (i + 5)) {S : fp_S} {I : Nat → Nat → Int32} {J : Nat → Nat → Int64} (hok : fp_ok S) (hC : fp_CR S I) (hM : fp_MR S I) (hX : I 0 = X) : ∃ I' J', ((pm_aI (fp_m L R I J) 0 (nI i + 1)).bind fun g1 => (pm_aI (fp_m L R I J) 0 (nI i + 2)).bind fun g2 => bif pm_kd (fp_m L R I J) 6 1 then ((pm_oL (pm_C mX6_same [.ref 1, .int g1, .int g2] (fp_m L R I J))).bind fun q => (pm_aI q.2 0 (nI i + 1)).bind fun h1 => (pm_aI q.2 0 (nI i + 2)).bind fun h2 => bif pm_kd q.2 7 45 then ((pm_oL (pm_C mX7_same [.ref 45, .int h1, .int h2] q.2)).bind fun q2 => if (lg_cmp q.1 q2.1) = 0 then (pm_res mL_law 18 [(0, .ref 0), (1, .ref 1), (2, .ref 45), (3, .int (nI i + 5))] [] q2.2) else (some (.int 0, q2.2))) else none) else none) = some (.int 1, fp_m L R I' J') := by
  obtain ⟨S', v, I1, J1, I2, J2, c1, d1, ok', hC', hM', z1, z2⟩ := fp_stp (J := J) (b_same (L := L) hR (X (i + 1)) (X (i + 2))) hok hC hM
  rw [hX] at z1 z2
  obtain ⟨I', J', e⟩ := ih S' I2 J2 ok' hC' hM' z2
  refine ⟨I', J', ?_⟩
  have ra : ∀ (I : Nat → Nat → Int32) (J : Nat → Nat → Int64), I 0 = X → ∀ k, k < 5 → pm_aI (fp_m L R I J) 0 (nI (i + k)) = some (X (i + k)) := fun I J h k hk => by rw [ai_0 (by omega) (by omega), h]
  simp only [na_1, na_2, na_3, na_4, k_1, k_45, cond_true, Option.bind_some, c1, d1, fp_oL', ra I J hX 1 (by decide), ra I J hX 2 (by decide), ra I1 J1 z1 1 (by decide), ra I1 J1 z1 2 (by decide), na_5]
  rw [if_pos (fp_cmp_eq.mpr rfl)]
  exact e
theorem l_isOf (hR : fp_RK R) {X : Nat → Int32} {i : Nat} (hL : L ≤ 2560) (hi : i + 5 ≤ L) (ih : fp_goes L R X (i + 5)) {S : fp_S} {I : Nat → Nat → Int32} {J : Nat → Nat → Int64} (hok : fp_ok S) (hC : fp_CR S I) (hM : fp_MR S I) (hX : I 0 = X) : ∃ I' J', ((pm_aI (fp_m L R I J) 0 (nI i + 1)).bind fun g1 => (pm_aI (fp_m L R I J) 0 (nI i + 2)).bind fun g2 => bif pm_kd (fp_m L R I J) 6 1 then ((pm_oL (pm_C mX6_isOf [.ref 1, .int g1, .int g2] (fp_m L R I J))).bind fun q => (pm_aI q.2 0 (nI i + 1)).bind fun h1 => (pm_aI q.2 0 (nI i + 2)).bind fun h2 => bif pm_kd q.2 7 45 then ((pm_oL (pm_C mX7_isOf [.ref 45, .int h1, .int h2] q.2)).bind fun q2 => if (lg_cmp q.1 q2.1) = 0 then (pm_res mL_law 18 [(0, .ref 0), (1, .ref 1), (2, .ref 45), (3, .int (nI i + 5))] [] q2.2) else (some (.int 0, q2.2))) else none) else none) = some (.int 1, fp_m L R I' J') := by
  obtain ⟨S', v, I1, J1, I2, J2, c1, d1, ok', hC', hM', z1, z2⟩ := fp_stp (J := J) (b_isOf (L := L) hR (X (i + 1)) (X (i + 2))) hok hC hM
  rw [hX] at z1 z2
  obtain ⟨I', J', e⟩ := ih S' I2 J2 ok' hC' hM' z2
  refine ⟨I', J', ?_⟩
  have ra : ∀ (I : Nat → Nat → Int32) (J : Nat → Nat → Int64), I 0 = X → ∀ k, k < 5 → pm_aI (fp_m L R I J) 0 (nI (i + k)) = some (X (i + k)) := fun I J h k hk => by rw [ai_0 (by omega) (by omega), h]
  simp only [na_1, na_2, na_3, na_4, k_1, k_45, cond_true, Option.bind_some, c1, d1, fp_oL', ra I J hX 1 (by decide), ra I J hX 2 (by decide), ra I1 J1 z1 1 (by decide), ra I1 J1 z1 2 (by decide), na_5]
  rw [if_pos (fp_cmp_eq.mpr rfl)]
  exact e
theorem l_who (hR : fp_RK R) {X : Nat → Int32} {i : Nat} (hL : L ≤ 2560) (hi : i + 5 ≤ L) (ih : fp_goes L R X (i + 5)) {S : fp_S} {I : Nat → Nat → Int32} {J : Nat → Nat → Int64} (hok : fp_ok S) (hC : fp_CR S I) (hM : fp_MR S I) (hX : I 0 = X) : ∃ I' J', ((pm_aI (fp_m L R I J) 0 (nI i + 1)).bind fun g1 => bif pm_kd (fp_m L R I J) 6 1 then ((pm_oL (pm_C mX6_who [.ref 1, .int g1] (fp_m L R I J))).bind fun q => (pm_aI q.2 0 (nI i + 1)).bind fun h1 => bif pm_kd q.2 7 45 then ((pm_oL (pm_C mX7_who [.ref 45, .int h1] q.2)).bind fun q2 => if (lg_cmp q.1 q2.1) = 0 then (pm_res mL_law 18 [(0, .ref 0), (1, .ref 1), (2, .ref 45), (3, .int (nI i + 5))] [] q2.2) else (some (.int 0, q2.2))) else none) else none) = some (.int 1, fp_m L R I' J') := by
  obtain ⟨S', v, I1, J1, I2, J2, c1, d1, ok', hC', hM', z1, z2⟩ := fp_stp (J := J) (b_who (L := L) hR (X (i + 1))) hok hC hM
  rw [hX] at z1 z2
  obtain ⟨I', J', e⟩ := ih S' I2 J2 ok' hC' hM' z2
  refine ⟨I', J', ?_⟩
  have ra : ∀ (I : Nat → Nat → Int32) (J : Nat → Nat → Int64), I 0 = X → ∀ k, k < 5 → pm_aI (fp_m L R I J) 0 (nI (i + k)) = some (X (i + k)) := fun I J h k hk => by rw [ai_0 (by omega) (by omega), h]
  simp only [na_1, na_2, na_3, na_4, k_1, k_45, cond_true, Option.bind_some, c1, d1, fp_oL', ra I J hX 1 (by decide), ra I1 J1 z1 1 (by decide), na_5]
  rw [if_pos (fp_cmp_eq.mpr rfl)]
  exact e
theorem l_number (hR : fp_RK R) {X : Nat → Int32} {i : Nat} (hL : L ≤ 2560) (hi : i + 5 ≤ L) (ih : fp_goes L R X (i + 5)) {S : fp_S} {I : Nat → Nat → Int32} {J : Nat → Nat → Int64} (hok : fp_ok S) (hC : fp_CR S I) (hM : fp_MR S I) (hX : I 0 = X) : ∃ I' J', ((pm_aI (fp_m L R I J) 0 (nI i + 1)).bind fun g1 => bif pm_kd (fp_m L R I J) 6 1 then ((pm_oL (pm_C mX6_number [.ref 1, .int g1] (fp_m L R I J))).bind fun q => (pm_aI q.2 0 (nI i + 1)).bind fun h1 => bif pm_kd q.2 7 45 then ((pm_oL (pm_C mX7_number [.ref 45, .int h1] q.2)).bind fun q2 => if (lg_cmp q.1 q2.1) = 0 then (pm_res mL_law 18 [(0, .ref 0), (1, .ref 1), (2, .ref 45), (3, .int (nI i + 5))] [] q2.2) else (some (.int 0, q2.2))) else none) else none) = some (.int 1, fp_m L R I' J') := by
  obtain ⟨S', v, I1, J1, I2, J2, c1, d1, ok', hC', hM', z1, z2⟩ := fp_stp (J := J) (b_number (L := L) hR (X (i + 1))) hok hC hM
  rw [hX] at z1 z2
  obtain ⟨I', J', e⟩ := ih S' I2 J2 ok' hC' hM' z2
  refine ⟨I', J', ?_⟩
  have ra : ∀ (I : Nat → Nat → Int32) (J : Nat → Nat → Int64), I 0 = X → ∀ k, k < 5 → pm_aI (fp_m L R I J) 0 (nI (i + k)) = some (X (i + k)) := fun I J h k hk => by rw [ai_0 (by omega) (by omega), h]
  simp only [na_1, na_2, na_3, na_4, k_1, k_45, cond_true, Option.bind_some, c1, d1, fp_oL', ra I J hX 1 (by decide), ra I1 J1 z1 1 (by decide), na_5]
  rw [if_pos (fp_cmp_eq.mpr rfl)]
  exact e
theorem l_law (hR : fp_RK R) {X : Nat → Int32} {i : Nat} (hL : L ≤ 2560) (hi : i + 5 ≤ L) (ih : fp_goes L R X (i + 5)) {S : fp_S} {I : Nat → Nat → Int32} {J : Nat → Nat → Int64} (hok : fp_ok S) (hC : fp_CR S I) (hM : fp_MR S I) (hX : I 0 = X) : ∃ I' J', ((pm_aI (fp_m L R I J) 0 (nI i + 1)).bind fun g1 => (pm_aI (fp_m L R I J) 0 (nI i + 2)).bind fun g2 => bif pm_kd (fp_m L R I J) 6 1 then ((pm_oL (pm_C mX6_law [.ref 1, .int g1, .int g2] (fp_m L R I J))).bind fun q => (pm_aI q.2 0 (nI i + 1)).bind fun h1 => (pm_aI q.2 0 (nI i + 2)).bind fun h2 => bif pm_kd q.2 7 45 then ((pm_oL (pm_C mX7_law [.ref 45, .int h1, .int h2] q.2)).bind fun q2 => if (lg_cmp q.1 q2.1) = 0 then (pm_res mL_law 18 [(0, .ref 0), (1, .ref 1), (2, .ref 45), (3, .int (nI i + 5))] [] q2.2) else (some (.int 0, q2.2))) else none) else none) = some (.int 1, fp_m L R I' J') := by
  obtain ⟨S', v, I1, J1, I2, J2, c1, d1, ok', hC', hM', z1, z2⟩ := fp_stp (J := J) (b_law (L := L) hR (X (i + 1)) (X (i + 2))) hok hC hM
  rw [hX] at z1 z2
  obtain ⟨I', J', e⟩ := ih S' I2 J2 ok' hC' hM' z2
  refine ⟨I', J', ?_⟩
  have ra : ∀ (I : Nat → Nat → Int32) (J : Nat → Nat → Int64), I 0 = X → ∀ k, k < 5 → pm_aI (fp_m L R I J) 0 (nI (i + k)) = some (X (i + k)) := fun I J h k hk => by rw [ai_0 (by omega) (by omega), h]
  simp only [na_1, na_2, na_3, na_4, k_1, k_45, cond_true, Option.bind_some, c1, d1, fp_oL', ra I J hX 1 (by decide), ra I J hX 2 (by decide), ra I1 J1 z1 1 (by decide), ra I1 J1 z1 2 (by decide), na_5]
  rw [if_pos (fp_cmp_eq.mpr rfl)]
  exact e
theorem l_broken (hR : fp_RK R) {X : Nat → Int32} {i : Nat} (hL : L ≤ 2560) (hi : i + 5 ≤ L) (ih : fp_goes L R X (i + 5)) {S : fp_S} {I : Nat → Nat → Int32} {J : Nat → Nat → Int64} (hok : fp_ok S) (hC : fp_CR S I) (hM : fp_MR S I) (hX : I 0 = X) : ∃ I' J', ((pm_aI (fp_m L R I J) 0 (nI i + 1)).bind fun g1 => bif pm_kd (fp_m L R I J) 6 1 then ((pm_oL (pm_C mX6_broken [.ref 1, .int g1] (fp_m L R I J))).bind fun q => (pm_aI q.2 0 (nI i + 1)).bind fun h1 => bif pm_kd q.2 7 45 then ((pm_oL (pm_C mX7_broken [.ref 45, .int h1] q.2)).bind fun q2 => if (lg_cmp q.1 q2.1) = 0 then (pm_res mL_law 18 [(0, .ref 0), (1, .ref 1), (2, .ref 45), (3, .int (nI i + 5))] [] q2.2) else (some (.int 0, q2.2))) else none) else none) = some (.int 1, fp_m L R I' J') := by
  obtain ⟨S', v, I1, J1, I2, J2, c1, d1, ok', hC', hM', z1, z2⟩ := fp_stp (J := J) (b_broken (L := L) hR (X (i + 1))) hok hC hM
  rw [hX] at z1 z2
  obtain ⟨I', J', e⟩ := ih S' I2 J2 ok' hC' hM' z2
  refine ⟨I', J', ?_⟩
  have ra : ∀ (I : Nat → Nat → Int32) (J : Nat → Nat → Int64), I 0 = X → ∀ k, k < 5 → pm_aI (fp_m L R I J) 0 (nI (i + k)) = some (X (i + k)) := fun I J h k hk => by rw [ai_0 (by omega) (by omega), h]
  simp only [na_1, na_2, na_3, na_4, k_1, k_45, cond_true, Option.bind_some, c1, d1, fp_oL', ra I J hX 1 (by decide), ra I1 J1 z1 1 (by decide), na_5]
  rw [if_pos (fp_cmp_eq.mpr rfl)]
  exact e
theorem l_near (hR : fp_RK R) {X : Nat → Int32} {i : Nat} (hL : L ≤ 2560) (hi : i + 5 ≤ L) (ih : fp_goes L R X (i + 5)) {S : fp_S} {I : Nat → Nat → Int32} {J : Nat → Nat → Int64} (hok : fp_ok S) (hC : fp_CR S I) (hM : fp_MR S I) (hX : I 0 = X) : ∃ I' J', ((pm_aI (fp_m L R I J) 0 (nI i + 1)).bind fun g1 => (pm_aI (fp_m L R I J) 0 (nI i + 2)).bind fun g2 => (pm_aI (fp_m L R I J) 0 (nI i + 3)).bind fun g3 => bif pm_kd (fp_m L R I J) 6 1 then ((pm_oL (pm_C mX6_near [.ref 1, .int g1, .int g2, .int g3] (fp_m L R I J))).bind fun q => (pm_aI q.2 0 (nI i + 1)).bind fun h1 => (pm_aI q.2 0 (nI i + 2)).bind fun h2 => (pm_aI q.2 0 (nI i + 3)).bind fun h3 => bif pm_kd q.2 7 45 then ((pm_oL (pm_C mX7_near [.ref 45, .int h1, .int h2, .int h3] q.2)).bind fun q2 => if (lg_cmp q.1 q2.1) = 0 then (pm_res mL_law 18 [(0, .ref 0), (1, .ref 1), (2, .ref 45), (3, .int (nI i + 5))] [] q2.2) else (some (.int 0, q2.2))) else none) else none) = some (.int 1, fp_m L R I' J') := by
  obtain ⟨S', v, I1, J1, I2, J2, c1, d1, ok', hC', hM', z1, z2⟩ := fp_stp (J := J) (b_near (L := L) hR (X (i + 1)) (X (i + 2)) (X (i + 3))) hok hC hM
  rw [hX] at z1 z2
  obtain ⟨I', J', e⟩ := ih S' I2 J2 ok' hC' hM' z2
  refine ⟨I', J', ?_⟩
  have ra : ∀ (I : Nat → Nat → Int32) (J : Nat → Nat → Int64), I 0 = X → ∀ k, k < 5 → pm_aI (fp_m L R I J) 0 (nI (i + k)) = some (X (i + k)) := fun I J h k hk => by rw [ai_0 (by omega) (by omega), h]
  simp only [na_1, na_2, na_3, na_4, k_1, k_45, cond_true, Option.bind_some, c1, d1, fp_oL', ra I J hX 1 (by decide), ra I J hX 2 (by decide), ra I J hX 3 (by decide), ra I1 J1 z1 1 (by decide), ra I1 J1 z1 2 (by decide), ra I1 J1 z1 3 (by decide), na_5]
  rw [if_pos (fp_cmp_eq.mpr rfl)]
  exact e
theorem l_begin (hR : fp_RK R) {X : Nat → Int32} {i : Nat} (hL : L ≤ 2560) (hi : i + 5 ≤ L) (ih : fp_goes L R X (i + 5)) {S : fp_S} {I : Nat → Nat → Int32} {J : Nat → Nat → Int64} (hok : fp_ok S) (hC : fp_CR S I) (hM : fp_MR S I) (hX : I 0 = X) : ∃ I' J', ((pm_aI (fp_m L R I J) 0 (nI i + 1)).bind fun g1 => (pm_aI (fp_m L R I J) 0 (nI i + 2)).bind fun g2 => bif pm_kd (fp_m L R I J) 6 1 then ((pm_oL (pm_C mX6_begin [.ref 1, .int g1, .int g2] (fp_m L R I J))).bind fun q => (pm_aI q.2 0 (nI i + 1)).bind fun h1 => (pm_aI q.2 0 (nI i + 2)).bind fun h2 => bif pm_kd q.2 7 45 then ((pm_oL (pm_C mX7_begin [.ref 45, .int h1, .int h2] q.2)).bind fun q2 => if (lg_cmp q.1 q2.1) = 0 then (pm_res mL_law 18 [(0, .ref 0), (1, .ref 1), (2, .ref 45), (3, .int (nI i + 5))] [] q2.2) else (some (.int 0, q2.2))) else none) else none) = some (.int 1, fp_m L R I' J') := by
  obtain ⟨S', v, I1, J1, I2, J2, c1, d1, ok', hC', hM', z1, z2⟩ := fp_stp (J := J) (b_begin (L := L) hR (X (i + 1)) (X (i + 2))) hok hC hM
  rw [hX] at z1 z2
  obtain ⟨I', J', e⟩ := ih S' I2 J2 ok' hC' hM' z2
  refine ⟨I', J', ?_⟩
  have ra : ∀ (I : Nat → Nat → Int32) (J : Nat → Nat → Int64), I 0 = X → ∀ k, k < 5 → pm_aI (fp_m L R I J) 0 (nI (i + k)) = some (X (i + k)) := fun I J h k hk => by rw [ai_0 (by omega) (by omega), h]
  simp only [na_1, na_2, na_3, na_4, k_1, k_45, cond_true, Option.bind_some, c1, d1, fp_oL', ra I J hX 1 (by decide), ra I J hX 2 (by decide), ra I1 J1 z1 1 (by decide), ra I1 J1 z1 2 (by decide), na_5]
  rw [if_pos (fp_cmp_eq.mpr rfl)]
  exact e
theorem l_weigh (hR : fp_RK R) {X : Nat → Int32} {i : Nat} (hL : L ≤ 2560) (hi : i + 5 ≤ L) (ih : fp_goes L R X (i + 5)) {S : fp_S} {I : Nat → Nat → Int32} {J : Nat → Nat → Int64} (hok : fp_ok S) (hC : fp_CR S I) (hM : fp_MR S I) (hX : I 0 = X) : ∃ I' J', ((pm_aI (fp_m L R I J) 0 (nI i + 1)).bind fun g1 => (pm_aI (fp_m L R I J) 0 (nI i + 2)).bind fun g2 => (pm_aI (fp_m L R I J) 0 (nI i + 3)).bind fun g3 => bif pm_kd (fp_m L R I J) 6 1 then ((pm_oL (pm_C mX6_weigh [.ref 1, .int g1, .int g2, .int g3] (fp_m L R I J))).bind fun q => (pm_aI q.2 0 (nI i + 1)).bind fun h1 => (pm_aI q.2 0 (nI i + 2)).bind fun h2 => (pm_aI q.2 0 (nI i + 3)).bind fun h3 => bif pm_kd q.2 7 45 then ((pm_oL (pm_C mX7_weigh [.ref 45, .int h1, .int h2, .int h3] q.2)).bind fun q2 => if (lg_cmp q.1 q2.1) = 0 then (pm_res mL_law 18 [(0, .ref 0), (1, .ref 1), (2, .ref 45), (3, .int (nI i + 5))] [] q2.2) else (some (.int 0, q2.2))) else none) else none) = some (.int 1, fp_m L R I' J') := by
  obtain ⟨S', v, I1, J1, I2, J2, c1, d1, ok', hC', hM', z1, z2⟩ := fp_stp (J := J) (b_weigh (L := L) hR (X (i + 1)) (X (i + 2)) (X (i + 3))) hok hC hM
  rw [hX] at z1 z2
  obtain ⟨I', J', e⟩ := ih S' I2 J2 ok' hC' hM' z2
  refine ⟨I', J', ?_⟩
  have ra : ∀ (I : Nat → Nat → Int32) (J : Nat → Nat → Int64), I 0 = X → ∀ k, k < 5 → pm_aI (fp_m L R I J) 0 (nI (i + k)) = some (X (i + k)) := fun I J h k hk => by rw [ai_0 (by omega) (by omega), h]
  simp only [na_1, na_2, na_3, na_4, k_1, k_45, cond_true, Option.bind_some, c1, d1, fp_oL', ra I J hX 1 (by decide), ra I J hX 2 (by decide), ra I J hX 3 (by decide), ra I1 J1 z1 1 (by decide), ra I1 J1 z1 2 (by decide), ra I1 J1 z1 3 (by decide), na_5]
  rw [if_pos (fp_cmp_eq.mpr rfl)]
  exact e
theorem l_take (hR : fp_RK R) {X : Nat → Int32} {i : Nat} (hL : L ≤ 2560) (hi : i + 5 ≤ L) (ih : fp_goes L R X (i + 5)) {S : fp_S} {I : Nat → Nat → Int32} {J : Nat → Nat → Int64} (hok : fp_ok S) (hC : fp_CR S I) (hM : fp_MR S I) (hX : I 0 = X) : ∃ I' J', ((pm_aI (fp_m L R I J) 0 (nI i + 1)).bind fun g1 => bif pm_kd (fp_m L R I J) 6 1 then ((pm_oL (pm_C mX6_take [.ref 1, .int g1] (fp_m L R I J))).bind fun q => (pm_aI q.2 0 (nI i + 1)).bind fun h1 => bif pm_kd q.2 7 45 then ((pm_oL (pm_C mX7_take [.ref 45, .int h1] q.2)).bind fun q2 => if (lg_cmp q.1 q2.1) = 0 then (pm_res mL_law 18 [(0, .ref 0), (1, .ref 1), (2, .ref 45), (3, .int (nI i + 5))] [] q2.2) else (some (.int 0, q2.2))) else none) else none) = some (.int 1, fp_m L R I' J') := by
  obtain ⟨S', v, I1, J1, I2, J2, c1, d1, ok', hC', hM', z1, z2⟩ := fp_stp (J := J) (b_take (L := L) hR (X (i + 1))) hok hC hM
  rw [hX] at z1 z2
  obtain ⟨I', J', e⟩ := ih S' I2 J2 ok' hC' hM' z2
  refine ⟨I', J', ?_⟩
  have ra : ∀ (I : Nat → Nat → Int32) (J : Nat → Nat → Int64), I 0 = X → ∀ k, k < 5 → pm_aI (fp_m L R I J) 0 (nI (i + k)) = some (X (i + k)) := fun I J h k hk => by rw [ai_0 (by omega) (by omega), h]
  simp only [na_1, na_2, na_3, na_4, k_1, k_45, cond_true, Option.bind_some, c1, d1, fp_oL', ra I J hX 1 (by decide), ra I1 J1 z1 1 (by decide), na_5]
  rw [if_pos (fp_cmp_eq.mpr rfl)]
  exact e
theorem l_value (hR : fp_RK R) {X : Nat → Int32} {i : Nat} (hL : L ≤ 2560) (hi : i + 5 ≤ L) (ih : fp_goes L R X (i + 5)) {S : fp_S} {I : Nat → Nat → Int32} {J : Nat → Nat → Int64} (hok : fp_ok S) (hC : fp_CR S I) (hM : fp_MR S I) (hX : I 0 = X) : ∃ I' J', ((pm_aI (fp_m L R I J) 0 (nI i + 1)).bind fun g1 => (pm_aI (fp_m L R I J) 0 (nI i + 2)).bind fun g2 => bif pm_kd (fp_m L R I J) 6 1 then ((pm_oL (pm_C mX6_value [.ref 1, .int g1, .int g2] (fp_m L R I J))).bind fun q => (pm_aI q.2 0 (nI i + 1)).bind fun h1 => (pm_aI q.2 0 (nI i + 2)).bind fun h2 => bif pm_kd q.2 7 45 then ((pm_oL (pm_C mX7_value [.ref 45, .int h1, .int h2] q.2)).bind fun q2 => if (lg_cmp q.1 q2.1) = 0 then (pm_res mL_law 18 [(0, .ref 0), (1, .ref 1), (2, .ref 45), (3, .int (nI i + 5))] [] q2.2) else (some (.int 0, q2.2))) else none) else none) = some (.int 1, fp_m L R I' J') := by
  obtain ⟨S', v, I1, J1, I2, J2, c1, d1, ok', hC', hM', z1, z2⟩ := fp_stp (J := J) (b_value (L := L) hR (X (i + 1)) (X (i + 2))) hok hC hM
  rw [hX] at z1 z2
  obtain ⟨I', J', e⟩ := ih S' I2 J2 ok' hC' hM' z2
  refine ⟨I', J', ?_⟩
  have ra : ∀ (I : Nat → Nat → Int32) (J : Nat → Nat → Int64), I 0 = X → ∀ k, k < 5 → pm_aI (fp_m L R I J) 0 (nI (i + k)) = some (X (i + k)) := fun I J h k hk => by rw [ai_0 (by omega) (by omega), h]
  simp only [na_1, na_2, na_3, na_4, k_1, k_45, cond_true, Option.bind_some, c1, d1, fp_oL', ra I J hX 1 (by decide), ra I J hX 2 (by decide), ra I1 J1 z1 1 (by decide), ra I1 J1 z1 2 (by decide), na_5]
  rw [if_pos (fp_cmp_eq.mpr rfl)]
  exact e
theorem l_bound (hR : fp_RK R) {X : Nat → Int32} {i : Nat} (hL : L ≤ 2560) (hi : i + 5 ≤ L) (ih : fp_goes L R X (i + 5)) {S : fp_S} {I : Nat → Nat → Int32} {J : Nat → Nat → Int64} (hok : fp_ok S) (hC : fp_CR S I) (hM : fp_MR S I) (hX : I 0 = X) : ∃ I' J', ((pm_aI (fp_m L R I J) 0 (nI i + 1)).bind fun g1 => bif pm_kd (fp_m L R I J) 6 1 then ((pm_oL (pm_C mX6_bound [.ref 1, .int g1] (fp_m L R I J))).bind fun q => (pm_aI q.2 0 (nI i + 1)).bind fun h1 => bif pm_kd q.2 7 45 then ((pm_oL (pm_C mX7_bound [.ref 45, .int h1] q.2)).bind fun q2 => if (lg_cmp q.1 q2.1) = 0 then (pm_res mL_law 18 [(0, .ref 0), (1, .ref 1), (2, .ref 45), (3, .int (nI i + 5))] [] q2.2) else (some (.int 0, q2.2))) else none) else none) = some (.int 1, fp_m L R I' J') := by
  obtain ⟨S', v, I1, J1, I2, J2, c1, d1, ok', hC', hM', z1, z2⟩ := fp_stp (J := J) (b_bound (L := L) hR (X (i + 1))) hok hC hM
  rw [hX] at z1 z2
  obtain ⟨I', J', e⟩ := ih S' I2 J2 ok' hC' hM' z2
  refine ⟨I', J', ?_⟩
  have ra : ∀ (I : Nat → Nat → Int32) (J : Nat → Nat → Int64), I 0 = X → ∀ k, k < 5 → pm_aI (fp_m L R I J) 0 (nI (i + k)) = some (X (i + k)) := fun I J h k hk => by rw [ai_0 (by omega) (by omega), h]
  simp only [na_1, na_2, na_3, na_4, k_1, k_45, cond_true, Option.bind_some, c1, d1, fp_oL', ra I J hX 1 (by decide), ra I1 J1 z1 1 (by decide), na_5]
  rw [if_pos (fp_cmp_eq.mpr rfl)]
  exact e
theorem l_breaks (hR : fp_RK R) {X : Nat → Int32} {i : Nat} (hL : L ≤ 2560) (hi : i + 5 ≤ L) (ih : fp_goes L R X (i + 5)) {S : fp_S} {I : Nat → Nat → Int32} {J : Nat → Nat → Int64} (hok : fp_ok S) (hC : fp_CR S I) (hM : fp_MR S I) (hX : I 0 = X) : ∃ I' J', ((pm_aI (fp_m L R I J) 0 (nI i + 1)).bind fun g1 => bif pm_kd (fp_m L R I J) 6 1 then ((pm_oL (pm_C mX6_breaks [.ref 1, .int g1] (fp_m L R I J))).bind fun q => (pm_aI q.2 0 (nI i + 1)).bind fun h1 => bif pm_kd q.2 7 45 then ((pm_oL (pm_C mX7_breaks [.ref 45, .int h1] q.2)).bind fun q2 => if (lg_cmp q.1 q2.1) = 0 then (pm_res mL_law 18 [(0, .ref 0), (1, .ref 1), (2, .ref 45), (3, .int (nI i + 5))] [] q2.2) else (some (.int 0, q2.2))) else none) else none) = some (.int 1, fp_m L R I' J') := by
  obtain ⟨S', v, I1, J1, I2, J2, c1, d1, ok', hC', hM', z1, z2⟩ := fp_stp (J := J) (b_breaks (L := L) hR (X (i + 1))) hok hC hM
  rw [hX] at z1 z2
  obtain ⟨I', J', e⟩ := ih S' I2 J2 ok' hC' hM' z2
  refine ⟨I', J', ?_⟩
  have ra : ∀ (I : Nat → Nat → Int32) (J : Nat → Nat → Int64), I 0 = X → ∀ k, k < 5 → pm_aI (fp_m L R I J) 0 (nI (i + k)) = some (X (i + k)) := fun I J h k hk => by rw [ai_0 (by omega) (by omega), h]
  simp only [na_1, na_2, na_3, na_4, k_1, k_45, cond_true, Option.bind_some, c1, d1, fp_oL', ra I J hX 1 (by decide), ra I1 J1 z1 1 (by decide), na_5]
  rw [if_pos (fp_cmp_eq.mpr rfl)]
  exact e
theorem l_best (hR : fp_RK R) {X : Nat → Int32} {i : Nat} (hL : L ≤ 2560) (hi : i + 5 ≤ L) (ih : fp_goes L R X (i + 5)) {S : fp_S} {I : Nat → Nat → Int32} {J : Nat → Nat → Int64} (hok : fp_ok S) (hC : fp_CR S I) (hM : fp_MR S I) (hX : I 0 = X) : ∃ I' J', ((pm_aI (fp_m L R I J) 0 (nI i + 1)).bind fun g1 => bif pm_kd (fp_m L R I J) 6 1 then ((pm_oL (pm_C mX6_best [.ref 1, .int g1] (fp_m L R I J))).bind fun q => (pm_aI q.2 0 (nI i + 1)).bind fun h1 => bif pm_kd q.2 7 45 then ((pm_oL (pm_C mX7_best [.ref 45, .int h1] q.2)).bind fun q2 => if (lg_cmp q.1 q2.1) = 0 then (pm_res mL_law 18 [(0, .ref 0), (1, .ref 1), (2, .ref 45), (3, .int (nI i + 5))] [] q2.2) else (some (.int 0, q2.2))) else none) else none) = some (.int 1, fp_m L R I' J') := by
  obtain ⟨S', v, I1, J1, I2, J2, c1, d1, ok', hC', hM', z1, z2⟩ := fp_stp (J := J) (b_best (L := L) hR (X (i + 1))) hok hC hM
  rw [hX] at z1 z2
  obtain ⟨I', J', e⟩ := ih S' I2 J2 ok' hC' hM' z2
  refine ⟨I', J', ?_⟩
  have ra : ∀ (I : Nat → Nat → Int32) (J : Nat → Nat → Int64), I 0 = X → ∀ k, k < 5 → pm_aI (fp_m L R I J) 0 (nI (i + k)) = some (X (i + k)) := fun I J h k hk => by rw [ai_0 (by omega) (by omega), h]
  simp only [na_1, na_2, na_3, na_4, k_1, k_45, cond_true, Option.bind_some, c1, d1, fp_oL', ra I J hX 1 (by decide), ra I1 J1 z1 1 (by decide), na_5]
  rw [if_pos (fp_cmp_eq.mpr rfl)]
  exact e
theorem l_share (hR : fp_RK R) {X : Nat → Int32} {i : Nat} (hL : L ≤ 2560) (hi : i + 5 ≤ L) (ih : fp_goes L R X (i + 5)) {S : fp_S} {I : Nat → Nat → Int32} {J : Nat → Nat → Int64} (hok : fp_ok S) (hC : fp_CR S I) (hM : fp_MR S I) (hX : I 0 = X) : ∃ I' J', ((pm_aI (fp_m L R I J) 0 (nI i + 1)).bind fun g1 => (pm_aI (fp_m L R I J) 0 (nI i + 2)).bind fun g2 => bif pm_kd (fp_m L R I J) 6 1 then ((pm_oL (pm_C mX6_share [.ref 1, .int g1, .int g2] (fp_m L R I J))).bind fun q => (pm_aI q.2 0 (nI i + 1)).bind fun h1 => (pm_aI q.2 0 (nI i + 2)).bind fun h2 => bif pm_kd q.2 7 45 then ((pm_oL (pm_C mX7_share [.ref 45, .int h1, .int h2] q.2)).bind fun q2 => if (lg_cmp q.1 q2.1) = 0 then (pm_res mL_law 18 [(0, .ref 0), (1, .ref 1), (2, .ref 45), (3, .int (nI i + 5))] [] q2.2) else (some (.int 0, q2.2))) else none) else none) = some (.int 1, fp_m L R I' J') := by
  obtain ⟨S', v, I1, J1, I2, J2, c1, d1, ok', hC', hM', z1, z2⟩ := fp_stp (J := J) (b_share (L := L) hR (X (i + 1)) (X (i + 2))) hok hC hM
  rw [hX] at z1 z2
  obtain ⟨I', J', e⟩ := ih S' I2 J2 ok' hC' hM' z2
  refine ⟨I', J', ?_⟩
  have ra : ∀ (I : Nat → Nat → Int32) (J : Nat → Nat → Int64), I 0 = X → ∀ k, k < 5 → pm_aI (fp_m L R I J) 0 (nI (i + k)) = some (X (i + k)) := fun I J h k hk => by rw [ai_0 (by omega) (by omega), h]
  simp only [na_1, na_2, na_3, na_4, k_1, k_45, cond_true, Option.bind_some, c1, d1, fp_oL', ra I J hX 1 (by decide), ra I J hX 2 (by decide), ra I1 J1 z1 1 (by decide), ra I1 J1 z1 2 (by decide), na_5]
  rw [if_pos (fp_cmp_eq.mpr rfl)]
  exact e
theorem l_mixed (hR : fp_RK R) {X : Nat → Int32} {i : Nat} (hL : L ≤ 2560) (hi : i + 5 ≤ L) (ih : fp_goes L R X (i + 5)) {S : fp_S} {I : Nat → Nat → Int32} {J : Nat → Nat → Int64} (hok : fp_ok S) (hC : fp_CR S I) (hM : fp_MR S I) (hX : I 0 = X) : ∃ I' J', ((pm_aI (fp_m L R I J) 0 (nI i + 1)).bind fun g1 => bif pm_kd (fp_m L R I J) 6 1 then ((pm_oL (pm_C mX6_mixed [.ref 1, .int g1] (fp_m L R I J))).bind fun q => (pm_aI q.2 0 (nI i + 1)).bind fun h1 => bif pm_kd q.2 7 45 then ((pm_oL (pm_C mX7_mixed [.ref 45, .int h1] q.2)).bind fun q2 => if (lg_cmp q.1 q2.1) = 0 then (pm_res mL_law 18 [(0, .ref 0), (1, .ref 1), (2, .ref 45), (3, .int (nI i + 5))] [] q2.2) else (some (.int 0, q2.2))) else none) else none) = some (.int 1, fp_m L R I' J') := by
  obtain ⟨S', v, I1, J1, I2, J2, c1, d1, ok', hC', hM', z1, z2⟩ := fp_stp (J := J) (b_mixed (L := L) hR (X (i + 1))) hok hC hM
  rw [hX] at z1 z2
  obtain ⟨I', J', e⟩ := ih S' I2 J2 ok' hC' hM' z2
  refine ⟨I', J', ?_⟩
  have ra : ∀ (I : Nat → Nat → Int32) (J : Nat → Nat → Int64), I 0 = X → ∀ k, k < 5 → pm_aI (fp_m L R I J) 0 (nI (i + k)) = some (X (i + k)) := fun I J h k hk => by rw [ai_0 (by omega) (by omega), h]
  simp only [na_1, na_2, na_3, na_4, k_1, k_45, cond_true, Option.bind_some, c1, d1, fp_oL', ra I J hX 1 (by decide), ra I1 J1 z1 1 (by decide), na_5]
  rw [if_pos (fp_cmp_eq.mpr rfl)]
  exact e
theorem l_makes (hR : fp_RK R) {X : Nat → Int32} {i : Nat} (hL : L ≤ 2560) (hi : i + 5 ≤ L) (ih : fp_goes L R X (i + 5)) {S : fp_S} {I : Nat → Nat → Int32} {J : Nat → Nat → Int64} (hok : fp_ok S) (hC : fp_CR S I) (hM : fp_MR S I) (hX : I 0 = X) : ∃ I' J', ((pm_aI (fp_m L R I J) 0 (nI i + 1)).bind fun g1 => bif pm_kd (fp_m L R I J) 6 1 then ((pm_oL (pm_C mX6_makes [.ref 1, .int g1] (fp_m L R I J))).bind fun q => (pm_aI q.2 0 (nI i + 1)).bind fun h1 => bif pm_kd q.2 7 45 then ((pm_oL (pm_C mX7_makes [.ref 45, .int h1] q.2)).bind fun q2 => if (lg_cmp q.1 q2.1) = 0 then (pm_res mL_law 18 [(0, .ref 0), (1, .ref 1), (2, .ref 45), (3, .int (nI i + 5))] [] q2.2) else (some (.int 0, q2.2))) else none) else none) = some (.int 1, fp_m L R I' J') := by
  obtain ⟨S', v, I1, J1, I2, J2, c1, d1, ok', hC', hM', z1, z2⟩ := fp_stp (J := J) (b_makes (L := L) hR (X (i + 1))) hok hC hM
  rw [hX] at z1 z2
  obtain ⟨I', J', e⟩ := ih S' I2 J2 ok' hC' hM' z2
  refine ⟨I', J', ?_⟩
  have ra : ∀ (I : Nat → Nat → Int32) (J : Nat → Nat → Int64), I 0 = X → ∀ k, k < 5 → pm_aI (fp_m L R I J) 0 (nI (i + k)) = some (X (i + k)) := fun I J h k hk => by rw [ai_0 (by omega) (by omega), h]
  simp only [na_1, na_2, na_3, na_4, k_1, k_45, cond_true, Option.bind_some, c1, d1, fp_oL', ra I J hX 1 (by decide), ra I1 J1 z1 1 (by decide), na_5]
  rw [if_pos (fp_cmp_eq.mpr rfl)]
  exact e
theorem l_wire (hR : fp_RK R) {X : Nat → Int32} {i : Nat} (hL : L ≤ 2560) (hi : i + 5 ≤ L) (ih : fp_goes L R X (i + 5)) {S : fp_S} {I : Nat → Nat → Int32} {J : Nat → Nat → Int64} (hok : fp_ok S) (hC : fp_CR S I) (hM : fp_MR S I) (hX : I 0 = X) : ∃ I' J', ((pm_aI (fp_m L R I J) 0 (nI i + 1)).bind fun g1 => (pm_aI (fp_m L R I J) 0 (nI i + 2)).bind fun g2 => (pm_aI (fp_m L R I J) 0 (nI i + 3)).bind fun g3 => bif pm_kd (fp_m L R I J) 6 1 then ((pm_oL (pm_C mX6_wire [.ref 1, .int g1, .int g2, .int g3] (fp_m L R I J))).bind fun q => (pm_aI q.2 0 (nI i + 1)).bind fun h1 => (pm_aI q.2 0 (nI i + 2)).bind fun h2 => (pm_aI q.2 0 (nI i + 3)).bind fun h3 => bif pm_kd q.2 7 45 then ((pm_oL (pm_C mX7_wire [.ref 45, .int h1, .int h2, .int h3] q.2)).bind fun q2 => if (lg_cmp q.1 q2.1) = 0 then (pm_res mL_law 18 [(0, .ref 0), (1, .ref 1), (2, .ref 45), (3, .int (nI i + 5))] [] q2.2) else (some (.int 0, q2.2))) else none) else none) = some (.int 1, fp_m L R I' J') := by
  obtain ⟨S', v, I1, J1, I2, J2, c1, d1, ok', hC', hM', z1, z2⟩ := fp_stp (J := J) (b_wire (L := L) hR (X (i + 1)) (X (i + 2)) (X (i + 3))) hok hC hM
  rw [hX] at z1 z2
  obtain ⟨I', J', e⟩ := ih S' I2 J2 ok' hC' hM' z2
  refine ⟨I', J', ?_⟩
  have ra : ∀ (I : Nat → Nat → Int32) (J : Nat → Nat → Int64), I 0 = X → ∀ k, k < 5 → pm_aI (fp_m L R I J) 0 (nI (i + k)) = some (X (i + k)) := fun I J h k hk => by rw [ai_0 (by omega) (by omega), h]
  simp only [na_1, na_2, na_3, na_4, k_1, k_45, cond_true, Option.bind_some, c1, d1, fp_oL', ra I J hX 1 (by decide), ra I J hX 2 (by decide), ra I J hX 3 (by decide), ra I1 J1 z1 1 (by decide), ra I1 J1 z1 2 (by decide), ra I1 J1 z1 3 (by decide), na_5]
  rw [if_pos (fp_cmp_eq.mpr rfl)]
  exact e
theorem l_blend (hR : fp_RK R) {X : Nat → Int32} {i : Nat} (hL : L ≤ 2560) (hi : i + 5 ≤ L) (ih : fp_goes L R X (i + 5)) {S : fp_S} {I : Nat → Nat → Int32} {J : Nat → Nat → Int64} (hok : fp_ok S) (hC : fp_CR S I) (hM : fp_MR S I) (hX : I 0 = X) : ∃ I' J', ((pm_aI (fp_m L R I J) 0 (nI i + 1)).bind fun g1 => (pm_aI (fp_m L R I J) 0 (nI i + 2)).bind fun g2 => (pm_aI (fp_m L R I J) 0 (nI i + 3)).bind fun g3 => (pm_aI (fp_m L R I J) 0 (nI i + 4)).bind fun g4 => bif pm_kd (fp_m L R I J) 6 1 then ((pm_oL (pm_C mX6_blend [.ref 1, .int g1, .int g2, .int g3, .int g4] (fp_m L R I J))).bind fun q => (pm_aI q.2 0 (nI i + 1)).bind fun h1 => (pm_aI q.2 0 (nI i + 2)).bind fun h2 => (pm_aI q.2 0 (nI i + 3)).bind fun h3 => (pm_aI q.2 0 (nI i + 4)).bind fun h4 => bif pm_kd q.2 7 45 then ((pm_oL (pm_C mX7_blend [.ref 45, .int h1, .int h2, .int h3, .int h4] q.2)).bind fun q2 => if (lg_cmp q.1 q2.1) = 0 then (pm_res mL_law 18 [(0, .ref 0), (1, .ref 1), (2, .ref 45), (3, .int (nI i + 5))] [] q2.2) else (some (.int 0, q2.2))) else none) else none) = some (.int 1, fp_m L R I' J') := by
  obtain ⟨S', v, I1, J1, I2, J2, c1, d1, ok', hC', hM', z1, z2⟩ := fp_stp (J := J) (b_blend (L := L) hR (X (i + 1)) (X (i + 2)) (X (i + 3)) (X (i + 4))) hok hC hM
  rw [hX] at z1 z2
  obtain ⟨I', J', e⟩ := ih S' I2 J2 ok' hC' hM' z2
  refine ⟨I', J', ?_⟩
  have ra : ∀ (I : Nat → Nat → Int32) (J : Nat → Nat → Int64), I 0 = X → ∀ k, k < 5 → pm_aI (fp_m L R I J) 0 (nI (i + k)) = some (X (i + k)) := fun I J h k hk => by rw [ai_0 (by omega) (by omega), h]
  simp only [na_1, na_2, na_3, na_4, k_1, k_45, cond_true, Option.bind_some, c1, d1, fp_oL', ra I J hX 1 (by decide), ra I J hX 2 (by decide), ra I J hX 3 (by decide), ra I J hX 4 (by decide), ra I1 J1 z1 1 (by decide), ra I1 J1 z1 2 (by decide), ra I1 J1 z1 3 (by decide), ra I1 J1 z1 4 (by decide), na_5]
  rw [if_pos (fp_cmp_eq.mpr rfl)]
  exact e
theorem l_parity (hR : fp_RK R) {X : Nat → Int32} {i : Nat} (hL : L ≤ 2560) (hi : i + 5 ≤ L) (ih : fp_goes L R X (i + 5)) {S : fp_S} {I : Nat → Nat → Int32} {J : Nat → Nat → Int64} (hok : fp_ok S) (hC : fp_CR S I) (hM : fp_MR S I) (hX : I 0 = X) : ∃ I' J', ((pm_aI (fp_m L R I J) 0 (nI i + 1)).bind fun g1 => (pm_aI (fp_m L R I J) 0 (nI i + 2)).bind fun g2 => (pm_aI (fp_m L R I J) 0 (nI i + 3)).bind fun g3 => bif pm_kd (fp_m L R I J) 6 1 then ((pm_oL (pm_C mX6_parity [.ref 1, .int g1, .int g2, .int g3] (fp_m L R I J))).bind fun q => (pm_aI q.2 0 (nI i + 1)).bind fun h1 => (pm_aI q.2 0 (nI i + 2)).bind fun h2 => (pm_aI q.2 0 (nI i + 3)).bind fun h3 => bif pm_kd q.2 7 45 then ((pm_oL (pm_C mX7_parity [.ref 45, .int h1, .int h2, .int h3] q.2)).bind fun q2 => if (lg_cmp q.1 q2.1) = 0 then (pm_res mL_law 18 [(0, .ref 0), (1, .ref 1), (2, .ref 45), (3, .int (nI i + 5))] [] q2.2) else (some (.int 0, q2.2))) else none) else none) = some (.int 1, fp_m L R I' J') := by
  obtain ⟨S', v, I1, J1, I2, J2, c1, d1, ok', hC', hM', z1, z2⟩ := fp_stp (J := J) (b_parity (L := L) hR (X (i + 1)) (X (i + 2)) (X (i + 3))) hok hC hM
  rw [hX] at z1 z2
  obtain ⟨I', J', e⟩ := ih S' I2 J2 ok' hC' hM' z2
  refine ⟨I', J', ?_⟩
  have ra : ∀ (I : Nat → Nat → Int32) (J : Nat → Nat → Int64), I 0 = X → ∀ k, k < 5 → pm_aI (fp_m L R I J) 0 (nI (i + k)) = some (X (i + k)) := fun I J h k hk => by rw [ai_0 (by omega) (by omega), h]
  simp only [na_1, na_2, na_3, na_4, k_1, k_45, cond_true, Option.bind_some, c1, d1, fp_oL', ra I J hX 1 (by decide), ra I J hX 2 (by decide), ra I J hX 3 (by decide), ra I1 J1 z1 1 (by decide), ra I1 J1 z1 2 (by decide), ra I1 J1 z1 3 (by decide), na_5]
  rw [if_pos (fp_cmp_eq.mpr rfl)]
  exact e
theorem l_undo (hR : fp_RK R) {X : Nat → Int32} {i : Nat} (hL : L ≤ 2560) (hi : i + 5 ≤ L) (ih : fp_goes L R X (i + 5)) {S : fp_S} {I : Nat → Nat → Int32} {J : Nat → Nat → Int64} (hok : fp_ok S) (hC : fp_CR S I) (hM : fp_MR S I) (hX : I 0 = X) : ∃ I' J', (bif pm_kd (fp_m L R I J) 6 1 then ((pm_oL (pm_C mX6_undo [.ref 1] (fp_m L R I J))).bind fun q => bif pm_kd q.2 7 45 then ((pm_oL (pm_C mX7_undo [.ref 45] q.2)).bind fun q2 => if (lg_cmp q.1 q2.1) = 0 then (pm_res mL_law 18 [(0, .ref 0), (1, .ref 1), (2, .ref 45), (3, .int (nI i + 5))] [] q2.2) else (some (.int 0, q2.2))) else none) else none) = some (.int 1, fp_m L R I' J') := by
  obtain ⟨S', v, I1, J1, I2, J2, c1, d1, ok', hC', hM', z1, z2⟩ := fp_stp (J := J) (b_undo (L := L) hR ) hok hC hM
  rw [hX] at z1 z2
  obtain ⟨I', J', e⟩ := ih S' I2 J2 ok' hC' hM' z2
  refine ⟨I', J', ?_⟩
  simp only [k_1, k_45, cond_true, Option.bind_some, c1, d1, fp_oL', na_5]
  rw [if_pos (fp_cmp_eq.mpr rfl)]
  exact e
theorem l_count (hR : fp_RK R) {X : Nat → Int32} {i : Nat} (hL : L ≤ 2560) (hi : i + 5 ≤ L) (ih : fp_goes L R X (i + 5)) {S : fp_S} {I : Nat → Nat → Int32} {J : Nat → Nat → Int64} (hok : fp_ok S) (hC : fp_CR S I) (hM : fp_MR S I) (hX : I 0 = X) : ∃ I' J', ((pm_aI (fp_m L R I J) 0 (nI i + 1)).bind fun g1 => bif pm_kd (fp_m L R I J) 6 1 then ((pm_oL (pm_C mX6_count [.ref 1, .int g1] (fp_m L R I J))).bind fun q => (pm_aI q.2 0 (nI i + 1)).bind fun h1 => bif pm_kd q.2 7 45 then ((pm_oL (pm_C mX7_count [.ref 45, .int h1] q.2)).bind fun q2 => if (lg_cmp q.1 q2.1) = 0 then (pm_res mL_law 18 [(0, .ref 0), (1, .ref 1), (2, .ref 45), (3, .int (nI i + 5))] [] q2.2) else (some (.int 0, q2.2))) else none) else none) = some (.int 1, fp_m L R I' J') := by
  obtain ⟨S', v, I1, J1, I2, J2, c1, d1, ok', hC', hM', z1, z2⟩ := fp_stp (J := J) (b_count (L := L) hR (X (i + 1))) hok hC hM
  rw [hX] at z1 z2
  obtain ⟨I', J', e⟩ := ih S' I2 J2 ok' hC' hM' z2
  refine ⟨I', J', ?_⟩
  have ra : ∀ (I : Nat → Nat → Int32) (J : Nat → Nat → Int64), I 0 = X → ∀ k, k < 5 → pm_aI (fp_m L R I J) 0 (nI (i + k)) = some (X (i + k)) := fun I J h k hk => by rw [ai_0 (by omega) (by omega), h]
  simp only [na_1, na_2, na_3, na_4, k_1, k_45, cond_true, Option.bind_some, c1, d1, fp_oL', ra I J hX 1 (by decide), ra I1 J1 z1 1 (by decide), na_5]
  rw [if_pos (fp_cmp_eq.mpr rfl)]
  exact e
theorem fp_goes_all (hR : fp_RK R) {X : Nat → Int32} (hL : L ≤ 2560) : ∀ n i, i ≤ L → L < i + 5 * n → fp_goes L R X i := by
  intro n
  induction n with
  | zero => intro i h1 h2; omega
  | succ n ih =>
    intro i h1 h2 S I J hok hC hM hX
    rw [e_L_law_18, al_0, Option.bind_some]
    by_cases hi : L < i + 5
    · exact ⟨I, J, by rw [if_pos ((fp_more hL (by omega)).mpr hi)]⟩
    · rw [if_neg (fun g => hi ((fp_more hL (by omega)).mp g)), ai_0 (by omega) (by omega), Option.bind_some]
      have nx : fp_goes L R X (i + 5) := ih (i + 5) (by omega) (by omega)
      by_cases g0 : (I 0 i &&& 31) = 0
      · rw [if_pos g0]; exact l_shape hR hL (by omega) nx hok hC hM hX
      rw [if_neg g0]
      by_cases g1 : (I 0 i &&& 31) = 1
      · rw [if_pos g1]; exact l_lose hR hL (by omega) nx hok hC hM hX
      rw [if_neg g1]
      by_cases g2 : (I 0 i &&& 31) = 2
      · rw [if_pos g2]; exact l_cell hR hL (by omega) nx hok hC hM hX
      rw [if_neg g2]
      by_cases g3 : (I 0 i &&& 31) = 3
      · rw [if_pos g3]; exact l_sure hR hL (by omega) nx hok hC hM hX
      rw [if_neg g3]
      by_cases g4 : (I 0 i &&& 31) = 4
      · rw [if_pos g4]; exact l_corner hR hL (by omega) nx hok hC hM hX
      rw [if_neg g4]
      by_cases g5 : (I 0 i &&& 31) = 5
      · rw [if_pos g5]; exact l_about hR hL (by omega) nx hok hC hM hX
      rw [if_neg g5]
      by_cases g6 : (I 0 i &&& 31) = 6
      · rw [if_pos g6]; exact l_chance hR hL (by omega) nx hok hC hM hX
      rw [if_neg g6]
      by_cases g7 : (I 0 i &&& 31) = 7
      · rw [if_pos g7]; exact l_swap hR hL (by omega) nx hok hC hM hX
      rw [if_neg g7]
      by_cases g8 : (I 0 i &&& 31) = 8
      · rw [if_pos g8]; exact l_turn hR hL (by omega) nx hok hC hM hX
      rw [if_neg g8]
      by_cases g9 : (I 0 i &&& 31) = 9
      · rw [if_pos g9]; exact l_same hR hL (by omega) nx hok hC hM hX
      rw [if_neg g9]
      by_cases g10 : (I 0 i &&& 31) = 10
      · rw [if_pos g10]; exact l_isOf hR hL (by omega) nx hok hC hM hX
      rw [if_neg g10]
      by_cases g11 : (I 0 i &&& 31) = 11
      · rw [if_pos g11]; exact l_who hR hL (by omega) nx hok hC hM hX
      rw [if_neg g11]
      by_cases g12 : (I 0 i &&& 31) = 12
      · rw [if_pos g12]; exact l_number hR hL (by omega) nx hok hC hM hX
      rw [if_neg g12]
      by_cases g13 : (I 0 i &&& 31) = 13
      · rw [if_pos g13]; exact l_law hR hL (by omega) nx hok hC hM hX
      rw [if_neg g13]
      by_cases g14 : (I 0 i &&& 31) = 14
      · rw [if_pos g14]; exact l_broken hR hL (by omega) nx hok hC hM hX
      rw [if_neg g14]
      by_cases g15 : (I 0 i &&& 31) = 15
      · rw [if_pos g15]; exact l_near hR hL (by omega) nx hok hC hM hX
      rw [if_neg g15]
      by_cases g16 : (I 0 i &&& 31) = 16
      · rw [if_pos g16]; exact l_begin hR hL (by omega) nx hok hC hM hX
      rw [if_neg g16]
      by_cases g17 : (I 0 i &&& 31) = 17
      · rw [if_pos g17]; exact l_weigh hR hL (by omega) nx hok hC hM hX
      rw [if_neg g17]
      by_cases g18 : (I 0 i &&& 31) = 18
      · rw [if_pos g18]; exact l_take hR hL (by omega) nx hok hC hM hX
      rw [if_neg g18]
      by_cases g19 : (I 0 i &&& 31) = 19
      · rw [if_pos g19]; exact l_value hR hL (by omega) nx hok hC hM hX
      rw [if_neg g19]
      by_cases g20 : (I 0 i &&& 31) = 20
      · rw [if_pos g20]; exact l_bound hR hL (by omega) nx hok hC hM hX
      rw [if_neg g20]
      by_cases g21 : (I 0 i &&& 31) = 21
      · rw [if_pos g21]; exact l_breaks hR hL (by omega) nx hok hC hM hX
      rw [if_neg g21]
      by_cases g22 : (I 0 i &&& 31) = 22
      · rw [if_pos g22]; exact l_best hR hL (by omega) nx hok hC hM hX
      rw [if_neg g22]
      by_cases g23 : (I 0 i &&& 31) = 23
      · rw [if_pos g23]; exact l_share hR hL (by omega) nx hok hC hM hX
      rw [if_neg g23]
      by_cases g24 : (I 0 i &&& 31) = 24
      · rw [if_pos g24]; exact l_mixed hR hL (by omega) nx hok hC hM hX
      rw [if_neg g24]
      by_cases g25 : (I 0 i &&& 31) = 25
      · rw [if_pos g25]; exact l_makes hR hL (by omega) nx hok hC hM hX
      rw [if_neg g25]
      by_cases g26 : (I 0 i &&& 31) = 26
      · rw [if_pos g26]; exact l_wire hR hL (by omega) nx hok hC hM hX
      rw [if_neg g26]
      by_cases g27 : (I 0 i &&& 31) = 27
      · rw [if_pos g27]; exact l_blend hR hL (by omega) nx hok hC hM hX
      rw [if_neg g27]
      by_cases g28 : (I 0 i &&& 31) = 28
      · rw [if_pos g28]; exact l_parity hR hL (by omega) nx hok hC hM hX
      rw [if_neg g28]
      by_cases g29 : (I 0 i &&& 31) = 29
      · rw [if_pos g29]; exact l_undo hR hL (by omega) nx hok hC hM hX
      rw [if_neg g29]
      by_cases g30 : (I 0 i &&& 31) = 30
      · rw [if_pos g30]; exact l_count hR hL (by omega) nx hok hC hM hX
      rw [if_neg g30]
      rw [na_5]
      exact nx S I J hok hC hM hX
end FpLoop
theorem pm_law_ok : pm_LawOk := by
  intro L xs hL
  obtain ⟨m1, R, I, J, p1, p2, p3, p4, hR, hC, hM, hX⟩ := fp_made L xs
  obtain ⟨I', J', e⟩ := fp_goes_all (R := R) (X := xs) hR hL 2600 0 (Nat.zero_le _) (by omega) fp_S0 I J fp_S0_ok hC hM hX
  refine ⟨fp_m L R I' J', ?_, by show (51 : Nat) ≤ 600000; decide, ?_⟩
  · rw [e_L_law, show (pm_M0 L xs).1.length = 1 from rfl, show pm_kd (pm_new (pm_M0 L xs) (6, 6)) 6 1 = true from rfl, cond_true, p1, fp_oV', Option.bind_some, p2, p3, cond_true, p4, fp_oV', Option.bind_some]
    exact e
  · show ((fp_sh L).map Prod.snd).sum ≤ 7302250 + L
    have : ((fp_sh L).map Prod.snd).sum = L + 7582 := by
      simp [fp_sh]
    omega
