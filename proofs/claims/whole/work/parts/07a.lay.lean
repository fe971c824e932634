/-! THE LAYOUT behind the constructors: cells by their numbers. 1 FarPairs, 2 its Table[8], 3 + 2 t table t, 4 + 2 t its cells; 19 History, 20 kept[6], 21 places[6], 22 + 2 i kept table i, 23 + 2 i its cells; 34 Law, 35 weights, 36 firstAnswers; 37 Shares, 38 numbers, 39 amounts; 40 Draft, 41 cells; 42 DoublePlay, 43 lower, 44 higher; 45 the reference, 46 s, 47 before, 48 weights, 49 shares, 50 made. -/
def fp_sh (L : Nat) : List (Nat × Nat) := [(8, L), (6, 6), (10, 8), (5, 4), (8, 81), (5, 4), (8, 81), (5, 4), (8, 81), (5, 4), (8, 81), (5, 4), (8, 81), (5, 4), (8, 81), (5, 4), (8, 81), (5, 4), (8, 81), (2, 4), (10, 6), (8, 6), (5, 4), (8, 81), (5, 4), (8, 81), (5, 4), (8, 81), (5, 4), (8, 81), (5, 4), (8, 81), (5, 4), (8, 81), (3, 12), (8, 81), (8, 3), (4, 3), (8, 30), (8, 30), (1, 4), (9, 81), (0, 2), (8, 256), (8, 256), (7, 9), (8, 672), (8, 4032), (8, 81), (8, 729), (9, 81)]
/-- which references there are, as (cell, place, what) -/
def fp_rl : List (Nat × Nat × Nat) := [(1, 0, 2), (1, 1, 19), (1, 2, 34), (1, 3, 37), (1, 4, 40), (1, 5, 42), (2, 0, 3), (2, 1, 5), (2, 2, 7), (2, 3, 9), (2, 4, 11), (2, 5, 13), (2, 6, 15), (2, 7, 17), (3, 3, 4), (5, 3, 6), (7, 3, 8), (9, 3, 10), (11, 3, 12), (13, 3, 14), (15, 3, 16), (17, 3, 18), (19, 0, 20), (19, 1, 21), (20, 0, 22), (20, 1, 24), (20, 2, 26), (20, 3, 28), (20, 4, 30), (20, 5, 32), (22, 3, 23), (24, 3, 25), (26, 3, 27), (28, 3, 29), (30, 3, 31), (32, 3, 33), (34, 2, 35), (34, 11, 36), (37, 0, 38), (37, 1, 39), (40, 3, 41), (42, 0, 43), (42, 1, 44), (45, 0, 46), (45, 1, 47), (45, 5, 48), (45, 6, 49), (45, 7, 50)]
def fp_RK (R : Nat → Nat → Option Nat) : Prop := ∀ q ∈ fp_rl, R q.1 q.2.1 = some q.2.2
/-- a memory of this layout -/
abbrev fp_m (L : Nat) (R : Nat → Nat → Option Nat) (I : Nat → Nat → Int32) (J : Nat → Nat → Int64) : pm_M := (fp_sh L, R, I, J)
/-- the cells that are tables -/
def fp_tb (r : Nat) : Prop := (∃ t, t < 8 ∧ r = 3 + 2 * t) ∨ ∃ i, i < 6 ∧ r = 22 + 2 * i
section Fp
variable {L : Nat} {R : Nat → Nat → Option Nat} {I : Nat → Nat → Int32} {J : Nat → Nat → Int64}
theorem fp_R (hR : fp_RK R) {r k v : Nat} (h : (r, k, v) ∈ fp_rl) : R r k = some v := hR _ h
theorem fp_tb_sh {r : Nat} (h : fp_tb r) : (fp_sh L)[r]? = some (5, 4) ∧ (fp_sh L)[r + 1]? = some (8, 81) := by
  rcases h with ⟨t, ht, rfl⟩ | ⟨i, hi, rfl⟩
  · rcases (by omega : t = 0 ∨ t = 1 ∨ t = 2 ∨ t = 3 ∨ t = 4 ∨ t = 5 ∨ t = 6 ∨ t = 7) with rfl | rfl | rfl | rfl | rfl | rfl | rfl | rfl <;> exact ⟨rfl, rfl⟩
  · rcases (by omega : i = 0 ∨ i = 1 ∨ i = 2 ∨ i = 3 ∨ i = 4 ∨ i = 5) with rfl | rfl | rfl | rfl | rfl | rfl <;> exact ⟨rfl, rfl⟩
theorem fp_tb_pos {r : Nat} (h : fp_tb r) : 3 ≤ r ∧ r ≤ 32 := by
  rcases h with ⟨t, ht, rfl⟩ | ⟨i, hi, rfl⟩ <;> omega
theorem fp_tb_R (hR : fp_RK R) {r : Nat} (h : fp_tb r) : R r 3 = some (r + 1) := by
  rcases h with ⟨t, ht, rfl⟩ | ⟨i, hi, rfl⟩
  · rcases (by omega : t = 0 ∨ t = 1 ∨ t = 2 ∨ t = 3 ∨ t = 4 ∨ t = 5 ∨ t = 6 ∨ t = 7) with rfl | rfl | rfl | rfl | rfl | rfl | rfl | rfl <;> exact fp_R hR (by decide)
  · rcases (by omega : i = 0 ∨ i = 1 ∨ i = 2 ∨ i = 3 ∨ i = 4 ∨ i = 5) with rfl | rfl | rfl | rfl | rfl | rfl <;> exact fp_R hR (by decide)
theorem fp_tabs (hR : fp_RK R) {t : Nat} (ht : t < 8) : R 2 t = some (3 + 2 * t) := by
  rcases (by omega : t = 0 ∨ t = 1 ∨ t = 2 ∨ t = 3 ∨ t = 4 ∨ t = 5 ∨ t = 6 ∨ t = 7) with rfl | rfl | rfl | rfl | rfl | rfl | rfl | rfl <;> exact fp_R hR (by decide)
theorem fp_kept (hR : fp_RK R) {i : Nat} (hi : i < 6) : R 20 i = some (22 + 2 * i) := by
  rcases (by omega : i = 0 ∨ i = 1 ∨ i = 2 ∨ i = 3 ∨ i = 4 ∨ i = 5) with rfl | rfl | rfl | rfl | rfl | rfl <;> exact fp_R hR (by decide)
/-! generic: a cell of a known kind -/
theorem fp_kd {M : pm_M} {ci n r : Nat} (h : M.1[r]? = some (ci, n)) : pm_kd M ci r = true := pm_kd_iff.mpr ⟨n, h⟩
theorem fp_gI {M : pm_M} {ci n r k : Nat} (h : M.1[r]? = some (ci, n)) : pm_gI M ci k r = some (M.2.2.1 r k) := by unfold pm_gI; rw [fp_kd h]; rfl
theorem fp_gL {M : pm_M} {ci n r k : Nat} (h : M.1[r]? = some (ci, n)) : pm_gL M ci k r = some (M.2.2.2 r k) := by unfold pm_gL; rw [fp_kd h]; rfl
theorem fp_gR {M : pm_M} {ci n r k v : Nat} (h : M.1[r]? = some (ci, n)) (hv : M.2.1 r k = some v) : pm_gR M ci k r = some v := by unfold pm_gR; rw [fp_kd h]; exact hv
theorem fp_pI {M : pm_M} {ci n r k : Nat} (h : M.1[r]? = some (ci, n)) (v : Int32) : pm_pI M ci k r v = some (M.1, M.2.1, va_up M.2.2.1 r (va_up (M.2.2.1 r) k v), M.2.2.2) := by unfold pm_pI; rw [fp_kd h]; rfl
theorem fp_pL {M : pm_M} {ci n r k : Nat} (h : M.1[r]? = some (ci, n)) (v : Int64) : pm_pL M ci k r v = some (M.1, M.2.1, M.2.2.1, va_up M.2.2.2 r (va_up (M.2.2.2 r) k v)) := by unfold pm_pL; rw [fp_kd h]; rfl
theorem fp_ix {n j : Nat} (hj : j < n) (hn : n < 2 ^ 31) : ¬ (nI j < 0 ∨ n ≤ (nI j).toNatClampNeg) := nI_in hj hn
theorem fp_cl {j : Nat} (h : j < 2 ^ 31) : (nI j).toNatClampNeg = j := nI_clamp h
theorem fp_aI {M : pm_M} {n r j : Nat} (h : M.1[r]? = some (8, n)) (hj : j < n) (hn : n < 2 ^ 31) : pm_aI M r (nI j) = some (M.2.2.1 r j) := by
  unfold pm_aI
  rw [pm_ln_iff.mpr h, Option.bind_some, if_neg (fp_ix hj hn), fp_cl (by omega)]
theorem fp_aL {M : pm_M} {n r j : Nat} (h : M.1[r]? = some (9, n)) (hj : j < n) (hn : n < 2 ^ 31) : pm_aL M r (nI j) = some (M.2.2.2 r j) := by
  unfold pm_aL
  rw [pm_ln_iff.mpr h, Option.bind_some, if_neg (fp_ix hj hn), fp_cl (by omega)]
theorem fp_aR {M : pm_M} {n r j v : Nat} (h : M.1[r]? = some (10, n)) (hj : j < n) (hn : n < 2 ^ 31) (hv : M.2.1 r j = some v) : pm_aR M r (nI j) = some v := by
  unfold pm_aR
  rw [pm_ln_iff.mpr h, Option.bind_some, if_neg (fp_ix hj hn), fp_cl (by omega)]
  exact hv
theorem fp_sI {M : pm_M} {n r j : Nat} (h : M.1[r]? = some (8, n)) (hr : r ≠ 0) (hj : j < n) (hn : n < 2 ^ 31) (v : Int32) : pm_sI M r (nI j) v = some (M.1, M.2.1, va_up M.2.2.1 r (va_up (M.2.2.1 r) j v), M.2.2.2) := by
  unfold pm_sI
  have : Nat.beq r 0 = false := by cases r with
    | zero => exact absurd rfl hr
    | succ r => rfl
  rw [this, pm_ln_iff.mpr h]
  simp only [cond_false, Option.bind_some]
  rw [if_neg (fp_ix hj hn), fp_cl (by omega)]
theorem fp_sL {M : pm_M} {n r j : Nat} (h : M.1[r]? = some (9, n)) (hj : j < n) (hn : n < 2 ^ 31) (v : Int64) : pm_sL M r (nI j) v = some (M.1, M.2.1, M.2.2.1, va_up M.2.2.2 r (va_up (M.2.2.2 r) j v)) := by
  unfold pm_sL
  rw [pm_ln_iff.mpr h, Option.bind_some, if_neg (fp_ix hj hn), fp_cl (by omega)]
end Fp
/-! calls by their answers -/
theorem fp_oI {o : Option pm_R} {x : Int32} {M : pm_M} (h : o = some (.int x, M)) : pm_oI o = some (x, M) := by rw [h]; rfl
theorem fp_oL {o : Option pm_R} {x : Int64} {M : pm_M} (h : o = some (.long x, M)) : pm_oL o = some (x, M) := by rw [h]; rfl
theorem fp_oR {o : Option pm_R} {x : Nat} {M : pm_M} (h : o = some (.ref x, M)) : pm_oR o = some (x, M) := by rw [h]; rfl
theorem fp_oV {o : Option pm_R} {M : pm_M} (h : o = some (.null, M)) : pm_oV o = some M := by rw [h]; rfl
theorem fp_oI' (x : Int32) (M : pm_M) : pm_oI (some (.int x, M)) = some (x, M) := rfl
theorem fp_oL' (x : Int64) (M : pm_M) : pm_oL (some (.long x, M)) = some (x, M) := rfl
theorem fp_oR' (x : Nat) (M : pm_M) : pm_oR (some (.ref x, M)) = some (x, M) := rfl
theorem fp_oV' (M : pm_M) : pm_oV (some (.null, M)) = some M := rfl
/-! loops -/
theorem fp_lp {α : Type} (f : Nat → α) {a n : Nat} (hn : a ≤ n) (h : ∀ i, a ≤ i → i < n → f i = f (i + 1)) : f a = f n := by
  induction n with
  | zero => rw [Nat.le_zero.mp hn]
  | succ n ih =>
    rcases Nat.lt_or_ge n a with q | q
    · rw [show a = n + 1 by omega]
    · rw [ih q (fun i h1 h2 => h i h1 (by omega)), h n q (by omega)]
theorem fp_lp0 {α : Type} (f : Nat → α) (n : Nat) (h : ∀ i, i < n → f i = f (i + 1)) : f 0 = f n := fp_lp f (Nat.zero_le n) (fun i _ h2 => h i h2)
/-- a loop that may end in its middle -/
theorem fp_lpx {α : Type} (f : Nat → α) (p : Nat → Prop) [DecidablePred p] (r : Nat → α) (n : Nat) (h : ∀ i, i < n → f i = if p i then r i else f (i + 1)) : (∃ i, i < n ∧ p i ∧ (∀ j, j < i → ¬ p j) ∧ f 0 = r i) ∨ ((∀ i, i < n → ¬ p i) ∧ f 0 = f n) := by
  induction n with
  | zero => exact Or.inr ⟨fun i hi => absurd hi (Nat.not_lt_zero i), rfl⟩
  | succ n ih =>
    rcases ih (fun i hi => h i (by omega)) with ⟨i, h1, h2, h3, h4⟩ | ⟨h1, h2⟩
    · exact Or.inl ⟨i, by omega, h2, h3, h4⟩
    · by_cases hp : p n
      · exact Or.inl ⟨n, by omega, hp, h1, by rw [h2, h n (by omega), if_pos hp]⟩
      · refine Or.inr ⟨fun i hi => ?_, by rw [h2, h n (by omega), if_neg hp]⟩
        rcases Nat.lt_or_ge i n with q | q
        · exact h1 i q
        · rw [show i = n by omega]; exact hp
/-! numbers: literals are nI -/
theorem fp_lit (n : Nat) : (OfNat.ofNat n : Int32) = nI (OfNat.ofNat n) := rfl
theorem fp_litL (n : Nat) : (OfNat.ofNat n : Int64) = lN (OfNat.ofNat n) := rfl
theorem fp_rem {a d : Nat} (ha : a < 2 ^ 31) (h0 : 0 < d) (hd : d < 2 ^ 31) : pm_rem (nI a) (nI d) = nI (a % d) := pk_rem ha h0 hd
theorem fp_remL {a d : Nat} (ha : a < 2 ^ 63) (h0 : 0 < d) (hd : d < 2 ^ 63) : pm_remL (lN a) (lN d) = lN (a % d) := pk_lRem ha h0 hd
theorem fp_eq0 {a : Nat} (ha : a < 2 ^ 31) : (nI a = nI 0) ↔ a = 0 := nI_eq ha (by decide)
/-! compares of longs -/
theorem fp_cmp_lt {x y : Int64} : lg_cmp x y < 0 ↔ x < y := by
  unfold lg_cmp
  by_cases h1 : y < x
  · rw [if_pos h1]
    exact ⟨fun q => absurd q (by decide), fun q => absurd h1 (lg_lt_not q)⟩
  · rw [if_neg h1]
    by_cases h2 : x = y
    · rw [if_pos h2]
      exact ⟨fun q => absurd q (by decide), fun q => absurd h2 (lg_lt_ne q)⟩
    · rw [if_neg h2]
      refine ⟨fun _ => ?_, fun _ => by decide⟩
      rw [Int64.lt_iff_toInt_lt] at *
      have : x.toInt ≠ y.toInt := fun q => h2 (Int64.toInt_inj.mp q)
      omega
theorem fp_cmp_gt {x y : Int64} : 0 < lg_cmp x y ↔ y < x := by
  unfold lg_cmp
  by_cases h1 : y < x
  · rw [if_pos h1]
    exact ⟨fun _ => h1, fun _ => by decide⟩
  · rw [if_neg h1]
    by_cases h2 : x = y
    · rw [if_pos h2]
      exact ⟨fun q => absurd q (by decide), fun q => absurd q h1⟩
    · rw [if_neg h2]
      exact ⟨fun q => absurd q (by decide), fun q => absurd q h1⟩
theorem fp_cmp_eq {x y : Int64} : lg_cmp x y = 0 ↔ x = y := by
  unfold lg_cmp
  by_cases h1 : y < x
  · rw [if_pos h1]
    exact ⟨fun q => absurd q (by decide), fun q => absurd q.symm (lg_lt_ne h1)⟩
  · rw [if_neg h1]
    by_cases h2 : x = y
    · rw [if_pos h2]
      exact ⟨fun _ => h2, fun _ => rfl⟩
    · rw [if_neg h2]
      exact ⟨fun q => absurd q (by decide), fun q => absurd q h2⟩
theorem fp_cmp_le {x y : Int64} : lg_cmp x y ≤ 0 ↔ x ≤ y := by
  rw [← Int32.not_lt, fp_cmp_gt, Int64.not_lt]
theorem fp_cmp_ge {x y : Int64} : 0 ≤ lg_cmp x y ↔ y ≤ x := by
  rw [← Int32.not_lt, fp_cmp_lt, Int64.not_lt]
