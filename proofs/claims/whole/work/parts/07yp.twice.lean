/-! best twice -/
def fp_p2 (W : Nat → Int) (x y a b : Nat) : Int := W (27 * (x / 2) + 9 * (y / 2) + 3 * (a / 2) + b / 2) * W (27 * (x % 2) + 9 * (y % 2) + 3 * (a % 2) + b % 2)
theorem fp_p2_b {W : Nat → Int} (hW : ∀ k, 0 ≤ W k ∧ W k ≤ 100) (x y a b : Nat) : 0 ≤ fp_p2 W x y a b ∧ fp_p2 W x y a b ≤ 10000 := by
  unfold fp_p2
  generalize 27 * (x / 2) + 9 * (y / 2) + 3 * (a / 2) + b / 2 = i
  generalize 27 * (x % 2) + 9 * (y % 2) + 3 * (a % 2) + b % 2 = j
  have h1 := hW i
  have h2 := hW j
  refine ⟨Int.mul_nonneg h1.1 h2.1, ?_⟩
  have := (fp_mul_b (x := W i) (y := W j) (A := 100) (B := 100) (by omega) (by omega) h2.1 (by omega)).2
  omega
def fp_g2 (W : Nat → Int) (a0 a1 a2 a3 y b : Nat) : Int := fp_p2 W 0 y a0 b + fp_p2 W 1 y a1 b + fp_p2 W 2 y a2 b + fp_p2 W 3 y a3 b
theorem fp_g2_b {W : Nat → Int} (hW : ∀ k, 0 ≤ W k ∧ W k ≤ 100) (a0 a1 a2 a3 y b : Nat) : 0 ≤ fp_g2 W a0 a1 a2 a3 y b ∧ fp_g2 W a0 a1 a2 a3 y b ≤ 40000 := by
  have h0 := fp_p2_b hW 0 y a0 b
  have h1 := fp_p2_b hW 1 y a1 b
  have h2 := fp_p2_b hW 2 y a2 b
  have h3 := fp_p2_b hW 3 y a3 b
  unfold fp_g2
  omega
def fp_u4 (W : Nat → Int) (a0 a1 a2 a3 : Nat) : Int := fp_sz (fun y => fp_mm (fp_g2 W a0 a1 a2 a3 y) 3) 4
theorem fp_mm_p {v : Nat → Int} {z : Int} (h : ∀ i, 0 ≤ v i ∧ v i ≤ z) (n : Nat) : 0 ≤ fp_mm v n ∧ fp_mm v n ≤ z := by
  obtain ⟨i, h1, h2⟩ := fp_mm_ex v n
  rw [h2]
  exact h i
theorem fp_sz_p {f : Nat → Int} {z : Nat} (h : ∀ i, 0 ≤ f i ∧ f i ≤ (z : Int)) : ∀ n : Nat, 0 ≤ fp_sz f n ∧ fp_sz f n ≤ ((n * z : Nat) : Int)
  | 0 => by simp [fp_sz]
  | n + 1 => by
    have h1 := fp_sz_p h n
    have h2 := h n
    rw [fp_sz, Nat.succ_mul]
    omega
theorem fp_u4_b {W : Nat → Int} (hW : ∀ k, 0 ≤ W k ∧ W k ≤ 100) (a0 a1 a2 a3 : Nat) : 0 ≤ fp_u4 W a0 a1 a2 a3 ∧ fp_u4 W a0 a1 a2 a3 ≤ 160000 := by
  have := fp_sz_p (f := fun y => fp_mm (fp_g2 W a0 a1 a2 a3 y) 3) (z := 40000) (fun y => fp_mm_p (fp_g2_b hW a0 a1 a2 a3 y) 3) 4
  unfold fp_u4
  omega
/-- the greatest, from 0 on -/
def fp_mz (v : Nat → Int) : Nat → Int
  | 0 => 0
  | n + 1 => if fp_mz v n < v n then v n else fp_mz v n
theorem fp_mz_mm {v : Nat → Int} (h : ∀ i, 0 ≤ v i) : ∀ n, fp_mz v (n + 1) = fp_mm v n
  | 0 => by
    have := h 0
    rw [fp_mz, fp_mm]
    show (if 0 < v 0 then v 0 else 0) = v 0
    split <;> omega
  | n + 1 => by rw [fp_mz, fp_mz_mm h n, fp_mm]
theorem fp_mz_b {v : Nat → Int} {z : Int} (hz : 0 ≤ z) (h : ∀ i, 0 ≤ v i ∧ v i ≤ z) : ∀ n, 0 ≤ fp_mz v n ∧ fp_mz v n ≤ z
  | 0 => ⟨Int.le_refl _, hz⟩
  | n + 1 => by
    have h1 := fp_mz_b hz h n
    have h2 := h n
    rw [fp_mz]
    split <;> omega
def fp_vf (W : Nat → Int) (f : Nat) : Int := fp_u4 W (f % 4) (f / 4 % 4) (f / 16 % 4) (f / 64 % 4)
def fp_ut (W : Nat → Int) (t : Nat) : Int := fp_u4 W (t / 16 / 4) (t / 16 % 4) (t % 16 / 4) (t % 16 % 4)
theorem fp_twice (W : Nat → Int) : fp_mm (fp_vf W) 255 = fp_mm (fp_ut W) 255 := by
  refine fp_mm_eq (fun f hf => ?_) (fun t ht => ?_)
  · refine ⟨(f % 4 * 4 + f / 4 % 4) * 16 + (f / 16 % 4 * 4 + f / 64 % 4), by omega, ?_⟩
    unfold fp_vf fp_ut
    generalize ha : f % 4 = a
    generalize hb : f / 4 % 4 = b
    generalize hc : f / 16 % 4 = c
    generalize hd : f / 64 % 4 = d
    have : a < 4 ∧ b < 4 ∧ c < 4 ∧ d < 4 := by omega
    rw [show ((a * 4 + b) * 16 + (c * 4 + d)) / 16 / 4 = a by omega, show ((a * 4 + b) * 16 + (c * 4 + d)) / 16 % 4 = b by omega, show ((a * 4 + b) * 16 + (c * 4 + d)) % 16 / 4 = c by omega, show ((a * 4 + b) * 16 + (c * 4 + d)) % 16 % 4 = d by omega]
    exact Int.le_refl _
  · refine ⟨t / 16 / 4 + 4 * (t / 16 % 4) + 16 * (t % 16 / 4) + 64 * (t % 16 % 4), by omega, ?_⟩
    unfold fp_vf fp_ut
    generalize ha : t / 16 / 4 = a
    generalize hb : t / 16 % 4 = b
    generalize hc : t % 16 / 4 = c
    generalize hd : t % 16 % 4 = d
    have : a < 4 ∧ b < 4 ∧ c < 4 ∧ d < 4 := by omega
    clear ha hb hc hd ht
    rw [show (a + 4 * b + 16 * c + 64 * d) / 4 = b + 4 * c + 16 * d by omega, show (a + 4 * b + 16 * c + 64 * d) / 16 = c + 4 * d by omega, show (a + 4 * b + 16 * c + 64 * d) / 64 = d by omega, show (a + 4 * b + 16 * c + 64 * d) % 4 = a by omega, show (b + 4 * c + 16 * d) % 4 = b by omega, show (c + 4 * d) % 4 = c by omega, show d % 4 = d by omega]
    exact Int.le_refl _
theorem fp_fd : ∀ f, f < 256 → ∀ x, x < 4 → ((nI f >>> ((2 * nI x) &&& 31)) &&& 3) = nI (f / 4 ^ x % 4) := by decide +kernel
theorem fp_pmax {x y : Int} (x1 : -2147483648 ≤ x) (x2 : x < 2147483648) (y1 : -2147483648 ≤ y) (y2 : y < 2147483648) : pm_max (zI x) (zI y) = zI (if x < y then y else x) := by
  unfold pm_max
  by_cases h : x < y
  · rw [if_pos ((zI_lt x1 x2 y1 y2).mpr h), if_pos h]
  · rw [if_neg (fun q => h ((zI_lt x1 x2 y1 y2).mp q)), if_neg h]
def fp_lo (W : Nat → Int) (j : Nat) : Int := fp_p2 W 0 (j % 16 / 4) (j / 16 / 4) (j % 16 % 4) + fp_p2 W 1 (j % 16 / 4) (j / 16 % 4) (j % 16 % 4)
def fp_hi (W : Nat → Int) (j : Nat) : Int := fp_p2 W 2 (j % 16 / 4) (j / 16 / 4) (j % 16 % 4) + fp_p2 W 3 (j % 16 / 4) (j / 16 % 4) (j % 16 % 4)
def fp_pts (W : Nat → Int) : Prop := ∀ k, k < 81 → 0 ≤ W k ∧ W k ≤ 100
section FpTwice
variable {L : Nat} {R : Nat → Nat → Option Nat} {I : Nat → Nat → Int32} {J : Nat → Nat → Int64}
theorem c_product (hR : fp_RK R) {W : Nat → Int} (h35 : ∀ k, k < 81 → I 35 k = zI (W k)) {x a o : Nat} (hx : x < 4) (ha : a < 4) (ho : o < 16) : pm_C mX0_product [.ref 34, .int (nI x), .int (nI a), .int (nI o)] (fp_m L R I J) = some (.int (zI (fp_p2 W x (o / 4) a (o % 4))), fp_m L R I J) := by
  rw [e_X0_product, nd_4 (by omega), nq_4 (by omega), nd_2 (show x < 2 ^ 31 by omega), nd_2 (show o / 4 < 2 ^ 31 by omega), nd_2 (show a < 2 ^ 31 by omega), nd_2 (show o % 4 < 2 ^ 31 by omega), nq_2 (show x < 2 ^ 31 by omega), nq_2 (show o / 4 < 2 ^ 31 by omega), nq_2 (show a < 2 ^ 31 by omega), nq_2 (show o % 4 < 2 ^ 31 by omega)]
  simp only [gr_34_2 hR, Option.bind_some, c_spot, fp_oI']
  rw [ai_35 (by omega), Option.bind_some, ai_35 (by omega), Option.bind_some, h35 _ (by omega), h35 _ (by omega), zI_mul]
  rfl
theorem c_halfSum (hR : fp_RK R) {W : Nat → Int} (h35 : ∀ k, k < 81 → I 35 k = zI (W k)) {x w o : Nat} (hx : x < 3) (hw : w < 16) (ho : o < 16) : pm_C mX0_halfSum [.ref 34, .int (nI x), .int (nI w), .int (nI o)] (fp_m L R I J) = some (.int (zI (fp_p2 W x (o / 4) (w / 4) (o % 4) + fp_p2 W (x + 1) (o / 4) (w % 4) (o % 4))), fp_m L R I J) := by
  rw [e_X0_halfSum, nd_4 (by omega), nq_4 (by omega), nI_1, c_product hR h35 (by omega) (by omega) ho, fp_oI']
  simp only [Option.bind_some]
  rw [c_product hR h35 (by omega) (by omega) ho, fp_oI', Option.bind_some, zI_add]
theorem c_fillSums (hR : fp_RK R) {W : Nat → Int} (h35 : ∀ k, k < 81 → I 35 k = zI (W k)) : ∃ I', pm_res mX0_greatestSum 2 [(0, .ref 42), (1, .ref 34), (2, .int 0)] [] (fp_m L R I J) = pm_res mX0_greatestSum 68 [(0, .ref 42), (2, .int 0), (3, .int 0)] [] (fp_m L R I' J) ∧ (∀ j, j < 256 → I' 43 j = zI (fp_lo W j) ∧ I' 44 j = zI (fp_hi W j)) ∧ ∀ i, i ≠ 43 → i ≠ 44 → I' i = I i := by
  let Q : Nat → (Nat → Nat → Int32) → Prop := fun n I' => (∀ j, j < n → I' 43 j = zI (fp_lo W j) ∧ I' 44 j = zI (fp_hi W j)) ∧ ∀ i, i ≠ 43 → i ≠ 44 → I' i = I i
  have step : ∀ w (I' : Nat → Nat → Int32), w < 16 → Q (16 * w) I' → ∃ I2, Q (16 * (w + 1)) I2 ∧ pm_res mX0_greatestSum 2 [(0, .ref 42), (1, .ref 34), (2, .int (nI w))] [] (fp_m L R I' J) = pm_res mX0_greatestSum 2 [(0, .ref 42), (1, .ref 34), (2, .int (nI (w + 1)))] [] (fp_m L R I2 J) := by
    intro w I' hw hQ
    obtain ⟨I2, p2, e2⟩ := fp_li0 (fun o (I' : Nat → Nat → Int32) => pm_res mX0_greatestSum 10 [(0, .ref 42), (1, .ref 34), (2, .int (nI w)), (3, .int (nI o))] [] (fp_m L R I' J)) (fun o I' => Q (16 * w + o) I') 16 (fun o I' ho p => by
      have e1 : (16 * w + o) / 16 = w := by omega
      have e2 : (16 * w + o) % 16 = o := by omega
      refine ⟨va_up (va_up I' 43 (va_up (I' 43) (16 * w + o) (zI (fp_lo W (16 * w + o))))) 44 (va_up (I' 44) (16 * w + o) (zI (fp_hi W (16 * w + o)))), ⟨fun j hj => ?_, fun i h1 h2 => by rw [pm_up_other _ _ h2, pm_up_other _ _ h1]; exact p.2 i h1 h2⟩, ?_⟩
      · rw [pm_up_other _ _ (show (43 : Nat) ≠ 44 by decide), pm_up_same, pm_up_same]
        by_cases e : j = 16 * w + o
        · rw [e, pm_up_same, pm_up_same]; exact ⟨rfl, rfl⟩
        · rw [pm_up_other _ _ e, pm_up_other _ _ e]; exact p.1 j (by omega)
      · rw [e_X0_greatestSum_10, if_neg (fp_ge ho (by decide))]
        simp only [gr_42_0 hR, Option.bind_some]
        rw [show pm_C mX0_halfSum [.ref 34, .int 0, .int (nI w), .int (nI o)] (fp_m L R I' J) = _ from c_halfSum (x := 0) hR (fun k hk => by rw [p.2 35 (by decide) (by decide)]; exact h35 k hk) (by decide) hw ho, fp_oI']
        simp only [Option.bind_some, nr_16, nI_add]
        rw [show w * 16 + o = 16 * w + o by omega, si_43 (by omega), Option.bind_some]
        simp only [gr_42_1 hR, Option.bind_some]
        rw [show ∀ I2 : Nat → Nat → Int32, (∀ k, k < 81 → I2 35 k = zI (W k)) → pm_C mX0_halfSum [.ref 34, .int 2, .int (nI w), .int (nI o)] (fp_m L R I2 J) = some (.int (zI (fp_p2 W 2 (o / 4) (w / 4) (o % 4) + fp_p2 W 3 (o / 4) (w % 4) (o % 4))), fp_m L R I2 J) from fun I2 h => c_halfSum (x := 2) hR h (by decide) hw ho, fp_oI']
        · simp only [Option.bind_some]
          rw [si_44 (by omega), Option.bind_some, nI_1, pm_up_other _ _ (show (44 : Nat) ≠ 43 by decide)]
          unfold fp_lo fp_hi
          rw [e1, e2]
        · intro k hk
          rw [pm_up_other _ _ (by decide), p.2 35 (by decide) (by decide)]
          exact h35 k hk) (s := I') hQ
    refine ⟨I2, p2, ?_⟩
    rw [e_X0_greatestSum_2, if_neg (fp_ge hw (by decide))]
    refine (show pm_res mX0_greatestSum 10 [(0, .ref 42), (1, .ref 34), (2, .int (nI w)), (3, .int 0)] [] (fp_m L R I' J) = _ from e2).trans ?_
    rw [e_X0_greatestSum_10, if_pos (fp_le (Nat.le_refl _) (by decide)), nI_1]
  obtain ⟨I2, p2, e2⟩ := fp_li0 (fun w (I' : Nat → Nat → Int32) => pm_res mX0_greatestSum 2 [(0, .ref 42), (1, .ref 34), (2, .int (nI w))] [] (fp_m L R I' J)) (fun w I' => Q (16 * w) I') 16 step (s := I) ⟨fun j hj => absurd hj (by omega), fun _ _ _ => rfl⟩
  refine ⟨I2, ?_, p2.1, p2.2⟩
  refine (show pm_res mX0_greatestSum 2 [(0, .ref 42), (1, .ref 34), (2, .int 0)] [] (fp_m L R I J) = _ from e2).trans ?_
  rw [e_X0_greatestSum_2, if_pos (fp_le (Nat.le_refl _) (by decide))]
theorem c_joined (hR : fp_RK R) {W : Nat → Int} (hW : ∀ k, 0 ≤ W k ∧ W k ≤ 100) (hA : ∀ j, j < 256 → I 43 j = zI (fp_lo W j) ∧ I 44 j = zI (fp_hi W j)) {l h : Nat} (hl : l < 16) (hh : h < 16) : pm_C mX0_joinedSum [.ref 42, .int (nI (l * 16)), .int (nI (h * 16))] (fp_m L R I J) = some (.int (zI (fp_u4 W (l / 4) (l % 4) (h / 4) (h % 4))), fp_m L R I J) := by
  have gb := fp_g2_b hW (l / 4) (l % 4) (h / 4) (h % 4)
  have key := fp_lp0 (fun y => pm_res mX0_joinedSum 5 [(0, .ref 42), (1, .int (nI (l * 16))), (2, .int (nI (h * 16))), (3, .int (zI (fp_sz (fun y => fp_mm (fp_g2 W (l / 4) (l % 4) (h / 4) (h % 4) y) 3) y))), (4, .int (nI (4 * y)))] [] (fp_m L R I J)) 4 (fun y hy => by
    rw [e_X0_joinedSum_5, if_neg (fp_ge (show 4 * y < 16 by omega) (by decide))]
    have inner := fp_lp0 (fun b => pm_res mX0_joinedSum 18 [(0, .ref 42), (1, .int (nI (l * 16))), (2, .int (nI (h * 16))), (3, .int (zI (fp_sz (fun y => fp_mm (fp_g2 W (l / 4) (l % 4) (h / 4) (h % 4) y) 3) y))), (4, .int (nI (4 * y))), (5, .int (zI (fp_mz (fp_g2 W (l / 4) (l % 4) (h / 4) (h % 4) y) b))), (6, .int (nI b))] [] (fp_m L R I J)) 4 (fun b hb => by
      have B1 := gb y b
      have B2 := fp_mz_b (z := 40000) (by decide) (gb y) b
      have eg : fp_lo W (l * 16 + (4 * y + b)) + fp_hi W (h * 16 + (4 * y + b)) = fp_g2 W (l / 4) (l % 4) (h / 4) (h % 4) y b := by
        unfold fp_lo fp_hi fp_g2
        rw [show (l * 16 + (4 * y + b)) / 16 = l by omega, show (l * 16 + (4 * y + b)) % 16 / 4 = y by omega, show (l * 16 + (4 * y + b)) % 16 % 4 = b by omega, show (h * 16 + (4 * y + b)) / 16 = h by omega, show (h * 16 + (4 * y + b)) % 16 / 4 = y by omega, show (h * 16 + (4 * y + b)) % 16 % 4 = b by omega]
        omega
      rw [e_X0_joinedSum_18, if_neg (fp_ge hb (by decide))]
      simp only [gr_42_0 hR, gr_42_1 hR, Option.bind_some, nI_add]
      rw [ai_43 (by omega), Option.bind_some, ai_44 (by omega), Option.bind_some, (hA _ (by omega)).1, (hA _ (by omega)).2, zI_add, eg, fp_pmax (by omega) (by omega) (by omega) (by omega), nI_1, fp_mz])
    refine (show pm_res mX0_joinedSum 18 [(0, .ref 42), (1, .int (nI (l * 16))), (2, .int (nI (h * 16))), (3, .int (zI (fp_sz (fun y => fp_mm (fp_g2 W (l / 4) (l % 4) (h / 4) (h % 4) y) 3) y))), (4, .int (nI (4 * y))), (5, .int 0), (6, .int 0)] [] (fp_m L R I J) = _ from inner).trans ?_
    rw [e_X0_joinedSum_18, if_pos (fp_le (Nat.le_refl _) (by decide)), fp_mz_mm (fun i => (gb y i).1), zI_add, na_4]
    rfl)
  rw [e_X0_joinedSum]
  refine (show pm_res mX0_joinedSum 5 [(0, .ref 42), (1, .int (nI (l * 16))), (2, .int (nI (h * 16))), (3, .int 0), (4, .int 0)] [] (fp_m L R I J) = _ from key).trans ?_
  rw [e_X0_joinedSum_5, if_pos (fp_le (Nat.le_refl _) (by decide))]
  rfl
theorem c_greatestSum (hR : fp_RK R) {W : Nat → Int} (hW : ∀ k, 0 ≤ W k ∧ W k ≤ 100) (h35 : ∀ k, k < 81 → I 35 k = zI (W k)) : ∃ I', pm_C mX0_greatestSum [.ref 42, .ref 34] (fp_m L R I J) = some (.long (zL (fp_mm (fp_ut W) 255)), fp_m L R I' J) ∧ ∀ i, i ≠ 43 → i ≠ 44 → I' i = I i := by
  obtain ⟨I1, c1, c2, c3⟩ := c_fillSums (L := L) (J := J) hR h35
  refine ⟨I1, ?_, c3⟩
  have ub : ∀ t, 0 ≤ fp_ut W t ∧ fp_ut W t ≤ 160000 := fun t => fp_u4_b hW _ _ _ _
  have mb := fp_mz_b (v := fp_ut W) (z := 160000) (by decide) ub
  have key := fp_lp0 (fun l => pm_res mX0_greatestSum 68 [(0, .ref 42), (2, .int (zI (fp_mz (fp_ut W) (16 * l)))), (3, .int (nI l))] [] (fp_m L R I1 J)) 16 (fun l hl => by
    rw [e_X0_greatestSum_68, if_neg (fp_ge hl (by decide))]
    have inner := fp_lp0 (fun h => pm_res mX0_greatestSum 77 [(0, .ref 42), (2, .int (zI (fp_mz (fp_ut W) (16 * l + h)))), (3, .int (nI l)), (4, .int (nI h))] [] (fp_m L R I1 J)) 16 (fun h hh => by
      have B1 := ub (16 * l + h)
      have B2 := mb (16 * l + h)
      have eu : fp_u4 W (l / 4) (l % 4) (h / 4) (h % 4) = fp_ut W (16 * l + h) := by
        unfold fp_ut
        rw [show (16 * l + h) / 16 = l by omega, show (16 * l + h) % 16 = h by omega]
      rw [e_X0_greatestSum_77, if_neg (fp_ge hh (by decide)), k_42, cond_true, nr_16, nr_16, c_joined hR hW c2 hl hh, fp_oI', Option.bind_some, eu, fp_pmax (by omega) (by omega) (by omega) (by omega), nI_1]
      rfl)
    refine (show pm_res mX0_greatestSum 77 [(0, .ref 42), (2, .int (zI (fp_mz (fp_ut W) (16 * l)))), (3, .int (nI l)), (4, .int 0)] [] (fp_m L R I1 J) = _ from inner).trans ?_
    rw [e_X0_greatestSum_77, if_pos (fp_le (Nat.le_refl _) (by decide)), nI_1]
    rfl)
  rw [e_X0_greatestSum, c1]
  refine (show pm_res mX0_greatestSum 68 [(0, .ref 42), (2, .int 0), (3, .int 0)] [] (fp_m L R I1 J) = _ from key).trans ?_
  have B := mb (16 * 16)
  rw [e_X0_greatestSum_68, if_pos (fp_le (Nat.le_refl _) (by decide)), ← fp_mz_mm (fun i => (ub i).1), zI_l (by omega) (by omega)]
theorem r_forTwo (hR : fp_RK R) {W : Nat → Int} (hW : ∀ k, 0 ≤ W k ∧ W k ≤ 100) (hl : fp_lr I 2 2 W) {f y : Nat} (hf : f < 256) (hy : y < 4) : pm_C mX7_bestForTwo [.ref 45, .int (nI f), .int (nI y)] (fp_m L R I J) = some (.long (zL (fp_mm (fp_g2 W (f % 4) (f / 4 % 4) (f / 16 % 4) (f / 64 % 4) y) 3)), fp_m L R I J) := by
  have gb := fp_g2_b hW (f % 4) (f / 4 % 4) (f / 16 % 4) (f / 64 % 4) y
  have sum : ∀ (b : Nat) (z : Int64), b < 4 → pm_res mX7_bestForTwo 17 [(0, .ref 45), (1, .int (nI f)), (2, .int (nI y)), (3, .long z), (5, .int (nI b)), (6, .long 0), (8, .int 0)] [] (fp_m L R I J) = pm_res mX7_bestForTwo 17 [(0, .ref 45), (1, .int (nI f)), (2, .int (nI y)), (3, .long z), (5, .int (nI b)), (6, .long (zL (fp_g2 W (f % 4) (f / 4 % 4) (f / 16 % 4) (f / 64 % 4) y b))), (8, .int (nI 4))] [] (fp_m L R I J) := by
    intro b z hb
    have key := fp_lp0 (fun x => pm_res mX7_bestForTwo 17 [(0, .ref 45), (1, .int (nI f)), (2, .int (nI y)), (3, .long z), (5, .int (nI b)), (6, .long (zL (fp_sz (fun x => fp_p2 W x y (f / 4 ^ x % 4) b) x))), (8, .int (nI x))] [] (fp_m L R I J)) 4 (fun x hx => by
      have ha : f / 4 ^ x % 4 < 4 := Nat.mod_lt _ (by decide)
      rw [e_X7_bestForTwo_17, if_neg (fp_ge hx (by decide)), fp_fd f hf x hx, fp_sz]
      unfold fp_p2
      generalize f / 4 ^ x % 4 = a at *
      have w1 := hW (27 * (x / 2) + 9 * (y / 2) + 3 * (a / 2) + b / 2)
      have w2 := hW (27 * (x % 2) + 9 * (y % 2) + 3 * (a % 2) + b % 2)
      rw [nd_2 (show x < 2 ^ 31 by omega), nd_2 (show y < 2 ^ 31 by omega), nd_2 (show a < 2 ^ 31 by omega), nd_2 (show b < 2 ^ 31 by omega), nq_2 (show x < 2 ^ 31 by omega), nq_2 (show y < 2 ^ 31 by omega), nq_2 (show a < 2 ^ 31 by omega), nq_2 (show b < 2 ^ 31 by omega), k_45, cond_true, r_weight hR hl.2.2 (by omega) (by omega) (by omega) (by omega), fp_oI', Option.bind_some]
      dsimp only
      rw [k_45, cond_true, r_weight hR hl.2.2 (by omega) (by omega) (by omega) (by omega), fp_oI', Option.bind_some]
      dsimp only
      rw [zI_l (by omega) (by omega), zI_l (by omega) (by omega), zL_mul, zL_add, nI_1])
    refine (show pm_res mX7_bestForTwo 17 [(0, .ref 45), (1, .int (nI f)), (2, .int (nI y)), (3, .long z), (5, .int (nI b)), (6, .long 0), (8, .int 0)] [] (fp_m L R I J) = _ from key).trans ?_
    have e : fp_sz (fun x => fp_p2 W x y (f / 4 ^ x % 4) b) 4 = fp_g2 W (f % 4) (f / 4 % 4) (f / 16 % 4) (f / 64 % 4) y b := by
      unfold fp_g2
      simp only [fp_sz, Nat.reducePow, Nat.div_one]
      omega
    rw [e]
  have key := fp_lp0 (fun n => pm_res mX7_bestForTwo 5 [(0, .ref 45), (1, .int (nI f)), (2, .int (nI y)), (3, .long (zL (fp_mm (fp_g2 W (f % 4) (f / 4 % 4) (f / 16 % 4) (f / 64 % 4) y) n))), (5, .int (nI (n + 1)))] [] (fp_m L R I J)) 3 (fun n hn => by
    have B1 := gb (n + 1)
    have B2 := fp_mm_p gb n
    rw [e_X7_bestForTwo_5, if_neg (fp_ge (show n + 1 < 4 by omega) (by decide)), sum (n + 1) _ (by omega), e_X7_bestForTwo_17, if_pos (fp_le (Nat.le_refl _) (by decide)), if_neg (fp_ne (by omega) (by omega) (by decide)), fp_mm]
    have le := zL_le (a := fp_g2 W (f % 4) (f / 4 % 4) (f / 16 % 4) (f / 64 % 4) y (n + 1)) (b := fp_mm (fp_g2 W (f % 4) (f / 4 % 4) (f / 16 % 4) (f / 64 % 4) y) n) (by omega) (by omega) (by omega) (by omega)
    by_cases h : fp_mm (fp_g2 W (f % 4) (f / 4 % 4) (f / 16 % 4) (f / 64 % 4) y) n < fp_g2 W (f % 4) (f / 4 % 4) (f / 16 % 4) (f / 64 % 4) y (n + 1)
    · rw [if_neg (fun q => by have := le.mp (fp_cmp_le.mp q); omega), if_pos h, nI_1]
    · rw [if_pos (fp_cmp_le.mpr (le.mpr (by omega))), if_neg h, nI_1])
  rw [e_X7_bestForTwo, e_X7_bestForTwo_5, if_neg (by decide), show pm_res mX7_bestForTwo 17 [(0, .ref 45), (1, .int (nI f)), (2, .int (nI y)), (3, .long 0), (5, .int 0), (6, .long 0), (8, .int 0)] [] (fp_m L R I J) = _ from sum 0 0 (by decide), e_X7_bestForTwo_17, if_pos (fp_le (Nat.le_refl _) (by decide)), if_pos (show nI 0 = 0 from rfl), nI_1]
  refine (show pm_res mX7_bestForTwo 5 [(0, .ref 45), (1, .int (nI f)), (2, .int (nI y)), (3, .long (zL (fp_g2 W (f % 4) (f / 4 % 4) (f / 16 % 4) (f / 64 % 4) y 0))), (5, .int (nI (0 + 1)))] [] (fp_m L R I J) = _ from key).trans ?_
  rw [e_X7_bestForTwo_5, if_pos (fp_le (Nat.le_refl _) (by decide))]
theorem r_bestTwice (hR : fp_RK R) {W : Nat → Int} (hW : ∀ k, 0 ≤ W k ∧ W k ≤ 100) (hl : fp_lr I 2 2 W) : pm_C mX7_bestTwice [.ref 45] (fp_m L R I J) = some (.long (zL (fp_mm (fp_ut W) 255)), fp_m L R I J) := by
  have ub : ∀ t, 0 ≤ fp_vf W t ∧ fp_vf W t ≤ 160000 := fun t => fp_u4_b hW _ _ _ _
  have mb := fp_mz_b (v := fp_vf W) (z := 160000) (by decide) ub
  have key := fp_lp0 (fun f => pm_res mX7_bestTwice 4 [(0, .ref 45), (1, .long (zL (fp_mz (fp_vf W) f))), (3, .int (nI f))] [] (fp_m L R I J)) 256 (fun f hf => by
    have B1 := ub f
    have B2 := mb f
    rw [e_X7_bestTwice_4, if_neg (fp_ge hf (by decide))]
    have inner := fp_lp0 (fun y => pm_res mX7_bestTwice 17 [(0, .ref 45), (1, .long (zL (fp_mz (fp_vf W) f))), (3, .int (nI f)), (4, .long (zL (fp_sz (fun y => fp_mm (fp_g2 W (f % 4) (f / 4 % 4) (f / 16 % 4) (f / 64 % 4) y) 3) y))), (6, .int (nI y))] [] (fp_m L R I J)) 4 (fun y hy => by
      rw [e_X7_bestTwice_17, if_neg (fp_ge hy (by decide)), k_45, cond_true, r_forTwo hR hW hl hf hy, fp_oL', Option.bind_some]
      dsimp only
      rw [zL_add, nI_1, fp_sz])
    refine (show pm_res mX7_bestTwice 17 [(0, .ref 45), (1, .long (zL (fp_mz (fp_vf W) f))), (3, .int (nI f)), (4, .long 0), (6, .int 0)] [] (fp_m L R I J) = _ from inner).trans ?_
    rw [e_X7_bestTwice_17, if_pos (fp_le (Nat.le_refl _) (by decide)), show fp_sz (fun y => fp_mm (fp_g2 W (f % 4) (f / 4 % 4) (f / 16 % 4) (f / 64 % 4) y) 3) 4 = fp_vf W f from rfl, fp_mz]
    have le := zL_le (a := fp_vf W f) (b := fp_mz (fp_vf W) f) (by omega) (by omega) (by omega) (by omega)
    by_cases h : fp_mz (fp_vf W) f < fp_vf W f
    · rw [if_neg (fun q => by have := le.mp (fp_cmp_le.mp q); omega), if_pos h, nI_1]
    · rw [if_pos (fp_cmp_le.mpr (le.mpr (by omega))), if_neg h, nI_1])
  rw [e_X7_bestTwice]
  refine (show pm_res mX7_bestTwice 4 [(0, .ref 45), (1, .long 0), (3, .int 0)] [] (fp_m L R I J) = _ from key).trans ?_
  rw [e_X7_bestTwice_4, if_pos (fp_le (Nat.le_refl _) (by decide)), ← fp_twice, fp_mz_mm (fun i => (ub i).1)]
theorem c_within (hR : fp_RK R) {W : Nat → Int} (hb : ∀ k, -1000 ≤ W k ∧ W k ≤ 1000) (h35 : ∀ k, k < 81 → I 35 k = zI (W k)) : (fp_pts W → pm_C mX3_allWeightsWithin [.ref 34, .int 0, .int 100] (fp_m L R I J) = some (.int 1, fp_m L R I J)) ∧ (¬ fp_pts W → pm_C mX3_allWeightsWithin [.ref 34, .int 0, .int 100] (fp_m L R I J) = some (.int 0, fp_m L R I J)) := by
  have loop := fp_lpx (fun i => pm_res mX3_allWeightsWithin 2 [(0, .ref 34), (1, .int 0), (2, .int 100), (3, .int (nI i))] [] (fp_m L R I J)) (fun i => ¬ (0 ≤ W i ∧ W i ≤ 100)) (fun _ => some (.int 0, fp_m L R I J)) 81 (fun i hi => by
    have b := hb i
    rw [e_X3_allWeightsWithin_2, if_neg (fp_ge hi (by decide))]
    simp only [gr_34_2 hR, Option.bind_some, ai_35 hi, h35 i hi]
    have lt : zI (W i) < (0 : Int32) ↔ W i < 0 := zI_lt (a := W i) (b := 0) (by omega) (by omega) (by decide) (by decide)
    have le : zI (W i) ≤ (100 : Int32) ↔ W i ≤ 100 := zI_le (a := W i) (b := 100) (by omega) (by omega) (by decide) (by decide)
    by_cases h1 : W i < 0
    · rw [if_pos (lt.mpr h1), if_pos (by omega)]
    · rw [if_neg (fun q => h1 (lt.mp q))]
      by_cases h2 : W i ≤ 100
      · rw [if_pos (le.mpr h2), if_neg (by omega), nI_1]
      · rw [if_neg (fun q => h2 (le.mp q)), if_pos (by omega)])
  rw [e_X3_allWeightsWithin]
  rcases loop with ⟨i, h1, h2, -, h3⟩ | ⟨h1, h2⟩
  · exact ⟨fun h => absurd (h i h1) h2, fun _ => h3⟩
  · refine ⟨fun _ => (show pm_res mX3_allWeightsWithin 2 [(0, .ref 34), (1, .int 0), (2, .int 100), (3, .int 0)] [] (fp_m L R I J) = _ from h2).trans ?_, fun h => absurd (fun k hk => Classical.not_not.mp (h1 k hk)) h⟩
    rw [e_X3_allWeightsWithin_2, if_pos (fp_le (Nat.le_refl _) (by decide))]
theorem r_points (hR : fp_RK R) {W : Nat → Int} (hb : ∀ k, -1000 ≤ W k ∧ W k ≤ 1000) (h48 : ∀ k, k < 81 → I 48 k = zI (W k)) : (fp_pts W → pm_C mX7_arePoints [.ref 45] (fp_m L R I J) = some (.int 1, fp_m L R I J)) ∧ (¬ fp_pts W → pm_C mX7_arePoints [.ref 45] (fp_m L R I J) = some (.int 0, fp_m L R I J)) := by
  have zero : ∀ i, i ≤ 81 → pm_res mX7_arePoints 4 [(0, .ref 45), (1, .int 0), (2, .int (nI i))] [] (fp_m L R I J) = some (.int 0, fp_m L R I J) := by
    intro i hi
    have := fp_lp (fun i => pm_res mX7_arePoints 4 [(0, .ref 45), (1, .int 0), (2, .int (nI i))] [] (fp_m L R I J)) hi (fun j _ h2 => by rw [e_X7_arePoints_4, if_neg (fp_ge h2 (by decide)), if_pos rfl, nI_1])
    refine this.trans ?_
    rw [e_X7_arePoints_4, if_pos (fp_le (Nat.le_refl _) (by decide))]
    rfl
  have loop := fp_lpx (fun i => pm_res mX7_arePoints 4 [(0, .ref 45), (1, .int 1), (2, .int (nI i))] [] (fp_m L R I J)) (fun i => ¬ (0 ≤ W i ∧ W i ≤ 100)) (fun _ => some (.int 0, fp_m L R I J)) 81 (fun i hi => by
    have b := hb i
    rw [e_X7_arePoints_4, if_neg (fp_ge hi (by decide)), if_neg (by decide)]
    simp only [gr_45_5 hR, Option.bind_some, ai_48 hi, h48 i hi]
    rw [r_isIn, fp_w, zI_t (by omega) (by omega), fp_oI', Option.bind_some]
    dsimp only
    rw [show (0 : Int64).toInt = 0 from rfl, show (100 : Int64).toInt = 100 from by decide]
    by_cases h1 : 0 ≤ W i ∧ W i ≤ 100
    · rw [fp_b_t h1, if_neg (by decide), if_neg (not_not_intro h1), nI_1]
    · rw [fp_b_f h1, if_pos rfl, if_pos h1, nI_1, zero (i + 1) (by omega)])
  rw [e_X7_arePoints]
  rcases loop with ⟨i, h1, h2, -, h3⟩ | ⟨h1, h2⟩
  · exact ⟨fun h => absurd (h i h1) h2, fun _ => h3⟩
  · refine ⟨fun _ => (show pm_res mX7_arePoints 4 [(0, .ref 45), (1, .int 1), (2, .int 0)] [] (fp_m L R I J) = _ from h2).trans ?_, fun h => absurd (fun k hk => Classical.not_not.mp (h1 k hk)) h⟩
    rw [e_X7_arePoints_4, if_pos (fp_le (Nat.le_refl _) (by decide))]
    rfl
theorem c_lTwo {q a : Nat} (h0 : I 34 0 = nI q) (h1 : I 34 1 = nI a) (hq : q ≤ 3) (ha : a ≤ 3) : pm_C mX3_isTwoByTwo [.ref 34] (fp_m L R I J) = some (.int (fp_b (q = 2 ∧ a = 2)), fp_m L R I J) := by
  rw [e_X3_isTwoByTwo]
  simp only [gi_34, h0, h1, Option.bind_some]
  by_cases e1 : q = 2
  · rw [if_pos (fp_eqR e1)]
    by_cases e2 : a = 2
    · rw [if_pos (fp_eqR e2), fp_b_t ⟨e1, e2⟩]
    · rw [if_neg (fp_ne e2 (by omega) (by decide)), fp_b_f (fun g => e2 g.2)]
  · rw [if_neg (fp_ne e1 (by omega) (by decide)), fp_b_f (fun g => e1 g.1)]
theorem b_best (hR : fp_RK R) (w : Int32) : fp_Both L R mX6_best mX7_best [.int w] := by
  intro S hok
  obtain ⟨q1, q2, q3, q4, q5, q6⟩ := hok.2.2.1
  by_cases h2 : 0 ≤ w.toInt ∧ w.toInt < 4
  case neg =>
    refine ⟨S, pm_BAD, hok, fp_Cs.same fun I J hC => ?_, fp_Ms.same fun I J hM => ?_⟩
    · rw [e_X6_best]
      by_cases h3 : w < 0
      · rw [if_pos h3]
      · rw [if_neg h3, if_neg]
        simp only [Int32.lt_iff_toInt_lt, Int32.le_iff_toInt_le] at h3 ⊢
        simp at h3 ⊢
        omega
    · rw [e_X7_best, r_isIn0 _ (fp_isIn0 (n := 3) (by decide) h2), fp_oI']
      rfl
  obtain ⟨w', hw, rfl⟩ := fp_nat (k := 4) h2.1 h2.2 (by decide)
  have hin := fp_isIn1 (w := w') (k := 3) (by omega) (show (w' : Int) ≤ 3 by omega)
  by_cases e2 : w' = 2
  · subst e2
    refine ⟨S, zL (fp_mm (fp_tu S.2.2.2.2.1 S.2.2.1 S.2.2.2.1) ((2 ^ S.2.2.1 - 1) / 2)), hok, fun I J hC => ?_, fp_Ms.same fun I J hM => ?_⟩
    · obtain ⟨I1, c1, c2, c3, c4⟩ := c_bestTold (L := L) (J := J) hR q5 (show fp_lw I S.2.2.1 S.2.2.2.1 S.2.2.2.2.1 from ⟨hC.2.2.1.1, hC.2.2.1.2.1, hC.2.2.1.2.2⟩) q1 q2 q3 q4
      refine ⟨I1, J, ?_, c_lawS hok hC c2 c3 c4, fun i hi => c4 i (by omega) (by omega)⟩
      rw [e_X6_best, if_neg (nI_pos (by omega)), if_pos (fp_leR (by omega) (by decide)), if_pos (show nI 2 = 2 from rfl)]
      simp only [gr_1_2 hR, Option.bind_some, k_34, cond_true, c1, fp_oL']
    · rw [e_X7_best, r_isIn1 _ hin, fp_oI']
      simp only [Option.bind_some, fp_10, if_false]
      rw [if_pos (show nI 2 = 2 from rfl), k_45, cond_true, r_bestTold hR q5 ⟨hM.2.2.1.1, hM.2.2.1.2.1, hM.2.2.1.2.2⟩ q1 q2 q3 q4, fp_oL']
      rfl
  by_cases h5 : S.2.2.1 = 2 ∧ S.2.2.2.1 = 2
  case neg =>
    refine ⟨S, pm_NO, hok, fp_Cs.same fun I J hC => ?_, fp_Ms.same fun I J hM => ?_⟩
    · rw [e_X6_best, if_neg (nI_pos (by omega)), if_pos (fp_leR (by omega) (by decide)), if_neg (fp_ne e2 (by omega) (by decide))]
      simp only [gr_1_2 hR, Option.bind_some, k_34, cond_true, c_lTwo hC.2.2.1.1 hC.2.2.1.2.1 q2 q4, fp_b_f h5, fp_oI', if_true]
    · rw [e_X7_best, r_isIn1 _ hin, fp_oI']
      simp only [Option.bind_some, fp_10, if_false]
      rw [if_neg (fp_ne e2 (by omega) (by decide))]
      simp only [gi_45, hM.2.2.1.1, hM.2.2.1.2.1, Option.bind_some]
      by_cases g1 : S.2.2.1 = 2
      · rw [if_pos (fp_eqR g1), if_neg (fp_ne (fun q => h5 ⟨g1, q⟩) (by omega) (by decide))]
      · rw [if_neg (fp_ne g1 (by omega) (by decide))]
  have eC : ∀ I J, fp_CR S I → pm_C mX6_best [.ref 1, .int (nI w')] (fp_m L R I J) = if nI w' = 3 then ((pm_oI (pm_C mX3_allWeightsWithin [.ref 34, .int 0, .int 100] (fp_m L R I J))).bind fun q6 => if q6.1 = 0 then (some (.long pm_NO, q6.2)) else ((pm_gR q6.2 6 5 1).bind fun g7 => (pm_gR q6.2 6 2 1).bind fun g8 => bif pm_kd q6.2 0 g7 then ((pm_oL (pm_C mX0_greatestSum [.ref g7, .ref g8] q6.2)).bind fun q9 => some (.long q9.1, q9.2)) else none)) else ((pm_oI (pm_C mX6_bestCorner [.ref 1] (fp_m L R I J))).bind fun q10 => if nI w' = 0 then (bif pm_kd q10.2 6 1 then ((pm_oL (pm_C mX6_twiceAtCorner [.ref 1, .int q10.1] q10.2)).bind fun q11 => some (.long q11.1, q11.2)) else none) else (some (.long (q10.1).toInt64, q10.2))) := by
    intro I J hC
    rw [e_X6_best, if_neg (nI_pos (by omega)), if_pos (fp_leR (by omega) (by decide)), if_neg (fp_ne e2 (by omega) (by decide))]
    simp only [gr_1_2 hR, Option.bind_some, k_34, k_1, cond_true, c_lTwo hC.2.2.1.1 hC.2.2.1.2.1 q2 q4, fp_b_t h5, fp_oI', fp_10, if_false]
  have eM : ∀ I J, fp_MR S I → pm_C mX7_best [.ref 45, .int (nI w')] (fp_m L R I J) = if nI w' = 3 then ((pm_oI (pm_C mX7_arePoints [.ref 45] (fp_m L R I J))).bind fun q5 => if q5.1 = 0 then (some (.long pm_NO, q5.2)) else (pm_res mX7_best 58 [(0, .ref 45), (1, .int (nI w'))] [] q5.2)) else pm_res mX7_best 58 [(0, .ref 45), (1, .int (nI w'))] [] (fp_m L R I J) := by
    intro I J hM
    rw [e_X7_best, r_isIn1 _ hin, fp_oI']
    simp only [Option.bind_some, fp_10, if_false]
    rw [if_neg (fp_ne e2 (by omega) (by decide))]
    simp only [gi_45, hM.2.2.1.1, hM.2.2.1.2.1, Option.bind_some]
    rw [if_pos (fp_eqR h5.1), if_pos (fp_eqR h5.2)]
    simp only [k_45, cond_true]
  have lr : ∀ I, fp_MR S I → fp_lr I 2 2 S.2.2.2.2.1 := fun I hM => ⟨by rw [hM.2.2.1.1, h5.1], by rw [hM.2.2.1.2.1, h5.2], hM.2.2.1.2.2⟩
  by_cases e3 : w' = 3
  · subst e3
    by_cases hp : fp_pts S.2.2.2.2.1
    · have hW : ∀ k, 0 ≤ S.2.2.2.2.1 k ∧ S.2.2.2.2.1 k ≤ 100 := fun k => by
        by_cases hk : k < 81
        · exact hp k hk
        · rw [q6 k (fun g => hk g.1)]; decide
      refine ⟨S, zL (fp_mm (fp_ut S.2.2.2.2.1) 255), hok, fun I J hC => ?_, fp_Ms.same fun I J hM => ?_⟩
      · obtain ⟨I1, c1, c2⟩ := c_greatestSum (L := L) (J := J) hR hW hC.2.2.1.2.2
        refine ⟨I1, J, ?_, fp_CR_cong hC hok.2.1.1 (fun i _ h => c2 i (by omega) (by omega)), fun i hi => c2 i (by omega) (by omega)⟩
        rw [eC I J hC, if_pos (show nI 3 = 3 from rfl), (c_within (L := L) (J := J) hR q5 hC.2.2.1.2.2).1 hp, fp_oI']
        simp only [Option.bind_some, fp_10, if_false, gr_1_5 hR, gr_1_2 hR, k_42, cond_true, c1, fp_oL']
      · rw [eM I J hM, if_pos (show nI 3 = 3 from rfl), (r_points (L := L) (J := J) hR q5 hM.2.2.1.2.2).1 hp, fp_oI']
        simp only [Option.bind_some, fp_10, if_false]
        rw [e_X7_best_58, if_neg (by decide), if_neg (by decide), k_45, cond_true, r_bestTwice hR hW (lr I hM), fp_oL']
        rfl
    · refine ⟨S, pm_NO, hok, fp_Cs.same fun I J hC => ?_, fp_Ms.same fun I J hM => ?_⟩
      · rw [eC I J hC, if_pos (show nI 3 = 3 from rfl), (c_within (L := L) (J := J) hR q5 hC.2.2.1.2.2).2 hp, fp_oI']
        rfl
      · rw [eM I J hM, if_pos (show nI 3 = 3 from rfl), (r_points (L := L) (J := J) hR q5 hM.2.2.1.2.2).2 hp, fp_oI']
        rfl
  have ml := fp_ma_le (fp_tc S.2.2.2.2.1) 23
  refine ⟨S, if w' = 0 then zL (fp_tc S.2.2.2.2.1 (fp_ma (fp_tc S.2.2.2.2.1) 23)) else (nI (fp_ma (fp_tc S.2.2.2.2.1) 23)).toInt64, hok, fun I J hC => ?_, fp_Ms.same fun I J hM => ?_⟩
  · obtain ⟨I1, J1, c1, c2⟩ := c_bestCorner (L := L) (J := J) hR q5 hC.2.2.1.2.2
    obtain ⟨I2, J2, d1, d2⟩ := c_twice (L := L) (I := I1) (J := J1) hR q5 (fun k hk => by rw [c2 35 (by decide)]; exact hC.2.2.1.2.2 k hk) (k := fp_ma (fp_tc S.2.2.2.2.1) 23) (by omega)
    by_cases e0 : w' = 0
    · refine ⟨I2, J2, ?_, fp_CR_cong hC hok.2.1.1 (fun i _ h => by rw [d2 i (by omega), c2 i (by omega)]), fun i hi => by rw [d2 i (by omega), c2 i (by omega)]⟩
      rw [eC I J hC, if_neg (fp_ne e3 (by omega) (by decide)), c1, fp_oI', Option.bind_some, if_pos (fp_eqR e0), if_pos e0]
      simp only [k_1, cond_true, d1, fp_oL', Option.bind_some]
    · refine ⟨I1, J1, ?_, fp_CR_cong hC hok.2.1.1 (fun i _ h => c2 i (by omega)), fun i hi => c2 i (by omega)⟩
      rw [eC I J hC, if_neg (fp_ne e3 (by omega) (by decide)), c1, fp_oI', Option.bind_some, if_neg (fp_ne e0 (by omega) (by decide)), if_neg e0]
  · rw [eM I J hM, if_neg (fp_ne e3 (by omega) (by decide)), e_X7_best_58]
    by_cases e0 : w' = 0
    · rw [if_pos (fp_eqR e0), if_pos e0, k_45, cond_true, r_bestCorner hR q5 (lr I hM), fp_oI', Option.bind_some]
      simp only [k_45, cond_true]
      rw [r_cornerValue hR q5 (lr I hM) (by omega), fp_oL']
      rfl
    · rw [if_neg (fp_ne e0 (by omega) (by decide)), if_neg e0, if_pos (fp_eqR (show w' = 1 by omega)), k_45, cond_true, r_bestCorner hR q5 (lr I hM), fp_oI']
      rfl
end FpTwice
