/-! best told -/
def fp_mm (v : Nat → Int) : Nat → Int
  | 0 => v 0
  | n + 1 => if fp_mm v n < v (n + 1) then v (n + 1) else fp_mm v n
theorem fp_mm_le (v : Nat → Int) : ∀ n i, i ≤ n → v i ≤ fp_mm v n
  | 0, i, h => by rw [Nat.le_zero.mp h]; exact Int.le_refl _
  | n + 1, i, h => by
    rw [fp_mm]
    rcases (by omega : i ≤ n ∨ i = n + 1) with q | q
    · have := fp_mm_le v n i q
      split <;> omega
    · rw [q]
      split <;> omega
theorem fp_mm_ex (v : Nat → Int) : ∀ n, ∃ i, i ≤ n ∧ fp_mm v n = v i
  | 0 => ⟨0, Nat.le_refl _, rfl⟩
  | n + 1 => by
    obtain ⟨i, h1, h2⟩ := fp_mm_ex v n
    rw [fp_mm]
    by_cases h : fp_mm v n < v (n + 1)
    · rw [if_pos h]; exact ⟨n + 1, Nat.le_refl _, rfl⟩
    · rw [if_neg h]; exact ⟨i, by omega, h2⟩
theorem fp_mm_eq {v u : Nat → Int} {n k : Nat} (h1 : ∀ i, i ≤ n → ∃ j, j ≤ k ∧ v i ≤ u j) (h2 : ∀ j, j ≤ k → ∃ i, i ≤ n ∧ u j ≤ v i) : fp_mm v n = fp_mm u k := by
  obtain ⟨i, i1, i2⟩ := fp_mm_ex v n
  obtain ⟨j, j1, j2⟩ := fp_mm_ex u k
  obtain ⟨j', a1, a2⟩ := h1 i i1
  obtain ⟨i', b1, b2⟩ := h2 j j1
  have c1 := fp_mm_le u k j' a1
  have c2 := fp_mm_le v n i' b1
  omega
theorem fp_mm_b {v : Nat → Int} {z : Int} {N : Nat} (h : ∀ i, i ≤ N → -z ≤ v i ∧ v i ≤ z) {n : Nat} (hn : n ≤ N) : -z ≤ fp_mm v n ∧ fp_mm v n ≤ z := by
  obtain ⟨i, h1, h2⟩ := fp_mm_ex v n
  rw [h2]
  exact h i (by omega)
theorem fp_cm_1 (A B : fp_q4) : (A.1 ≤ (fp_cm A B).1 ∧ B.1 ≤ (fp_cm A B).1) ∧ ((fp_cm A B).1 = A.1 ∨ (fp_cm A B).1 = B.1) := by
  rcases fp_tri A.1 B.1 with h | h | h
  · rw [fp_cm_lt h]; exact ⟨by dsimp only; omega, Or.inr rfl⟩
  · rw [fp_cm_eq h]; exact ⟨by dsimp only; omega, Or.inl rfl⟩
  · rw [fp_cm_gt h]; exact ⟨by dsimp only; omega, Or.inl rfl⟩
theorem fp_bk_le {B : Nat → fp_q4} : ∀ n i, i ≤ n → (B i).1 ≤ (fp_bk B n).1
  | 0, i, h => by rw [Nat.le_zero.mp h]; exact Int.le_refl _
  | n + 1, i, h => by
    have c := (fp_cm_1 (fp_bk B n) (B (n + 1))).1
    rw [fp_bk]
    rcases (by omega : i ≤ n ∨ i = n + 1) with q | q
    · have := fp_bk_le (B := B) n i q
      omega
    · rw [q]; exact c.2
theorem fp_bk_ex {B : Nat → fp_q4} : ∀ n, ∃ i, i ≤ n ∧ (fp_bk B n).1 = (B i).1
  | 0 => ⟨0, Nat.le_refl _, rfl⟩
  | n + 1 => by
    obtain ⟨i, h1, h2⟩ := fp_bk_ex (B := B) n
    rw [fp_bk]
    rcases (fp_cm_1 (fp_bk B n) (B (n + 1))).2 with q | q
    · exact ⟨i, by omega, by rw [q, h2]⟩
    · exact ⟨n + 1, Nat.le_refl _, q⟩
theorem fp_sz_add (f g : Nat → Int) : ∀ n, fp_sz (fun y => f y + g y) n = fp_sz f n + fp_sz g n
  | 0 => rfl
  | n + 1 => by rw [fp_sz, fp_sz, fp_sz, fp_sz_add f g n]; omega
theorem fp_so_1 (h : Nat → Nat → Int) (a : Nat) : ∀ Q, (fp_so h a Q).1 = fp_sz (fun y => (fp_am (h y) 0 (a - 1)).1) Q
  | 0 => rfl
  | Q + 1 => by
    rw [fp_so, fp_sz, ← fp_so_1 h a Q]
    rfl
/-- numbers by their digits -/
theorem fp_mkd {a : Nat} (ha : 2 ≤ a) (d : Nat → Nat) (hd : ∀ x, d x < a) : ∀ q, ∃ f, f < a ^ q ∧ ∀ x, x < q → fp_dg a f x = d x
  | 0 => ⟨0, by rw [Nat.pow_zero]; decide, fun x hx => absurd hx (Nat.not_lt_zero x)⟩
  | q + 1 => by
    obtain ⟨f, h1, h2⟩ := fp_mkd ha d hd q
    refine ⟨d q * a ^ q + f, ?_, fun x hx => ?_⟩
    · have e : (d q + 1) * a ^ q ≤ a * a ^ q := Nat.mul_le_mul_right _ (hd q)
      rw [Nat.succ_mul] at e
      rw [Nat.pow_succ, Nat.mul_comm (a ^ q)]
      omega
    · rcases (by omega : x < q ∨ x = q) with g | g
      · rw [fp_dg_lo rfl ha g]; exact h2 x g
      · rw [g]; exact fp_dg_hi rfl h1 (hd q)
theorem fp_gs_cg {W : Nat → Int} {q a m f f' : Nat} (h : ∀ x, x < q → m / 2 ^ x % 2 = 1 → fp_dg a f x = fp_dg a f' x) : fp_gs W q a m f = fp_gs W q a m f' := by
  funext y b
  unfold fp_gs
  refine fp_sz_cong q (fun x hx => ?_)
  by_cases e : m / 2 ^ x % 2 = 1
  · rw [if_pos e, if_pos e, h x hx e]
  · rw [if_neg e, if_neg e]
theorem fp_cmpl : ∀ q, q ≤ 3 → ∀ m, m < 8 → m ≤ 2 ^ q - 1 → ∀ x, x < q → ((2 ^ q - 1 - m) / 2 ^ x % 2 = 1 ↔ m / 2 ^ x % 2 = 0) := by decide
theorem fp_half : ∀ q, q ≤ 3 → 1 ≤ q → ∀ m, m < 8 → m ≤ 2 ^ q - 1 → m ≤ (2 ^ q - 1) / 2 ∨ 2 ^ q - 1 - m ≤ (2 ^ q - 1) / 2 := by decide
def fp_tS (W : Nat → Int) (q a m f : Nat) : Int := (fp_so (fp_gs W q a m f) a q).1
def fp_tv (W : Nat → Int) (q a t : Nat) : Int := fp_tS W q a (2 ^ q - 1 - t % 2 ^ q) (t / 2 ^ q) + fp_tS W q a (t % 2 ^ q) (t / 2 ^ q)
def fp_tu (W : Nat → Int) (q a p : Nat) : Int := (fp_su4 W q a p).1 + (fp_su4 W q a (2 ^ q - 1 - p)).1
theorem fp_tS_le {W : Nat → Int} {q a m f : Nat} (hf : f < a ^ q) : fp_tS W q a m f ≤ (fp_su4 W q a m).1 := by
  have := fp_bk_le (B := fp_bf W q a m) (a ^ q - 1) f (by omega)
  have e : (fp_bf W q a m f).1 = fp_tS W q a m f := Int.add_zero _
  rw [e] at this
  exact this
theorem fp_tS_ex (W : Nat → Int) (q m : Nat) {a : Nat} (ha : 2 ≤ a) : ∃ f, f < a ^ q ∧ (fp_su4 W q a m).1 = fp_tS W q a m f := by
  have hpos : 0 < a ^ q := Nat.pow_pos (by omega)
  obtain ⟨f, h1, h2⟩ := fp_bk_ex (B := fp_bf W q a m) (a ^ q - 1)
  exact ⟨f, by omega, h2.trans (Int.add_zero _)⟩
theorem fp_told {W : Nat → Int} {q a : Nat} (q1 : 1 ≤ q) (q2 : q ≤ 3) (ha : 2 ≤ a) : fp_mm (fp_tv W q a) (a ^ q * 2 ^ q - 1) = fp_mm (fp_tu W q a) ((2 ^ q - 1) / 2) := by
  have h2pos : 0 < 2 ^ q := Nat.pow_pos (by omega)
  have hpos : 0 < a ^ q := Nat.pow_pos (by omega)
  have h8 := fp_pw2 q q2
  have hPP : 0 < a ^ q * 2 ^ q := Nat.mul_pos hpos h2pos
  refine fp_mm_eq (fun t ht => ?_) (fun p hp => ?_)
  · have hb : t % 2 ^ q < 2 ^ q := Nat.mod_lt _ h2pos
    have hf : t / 2 ^ q < a ^ q := Nat.div_lt_of_lt_mul (by rw [Nat.mul_comm]; omega)
    unfold fp_tv
    generalize t % 2 ^ q = m at *
    generalize t / 2 ^ q = f at *
    have l1 := fp_tS_le (W := W) (m := m) hf
    have l2 := fp_tS_le (W := W) (m := 2 ^ q - 1 - m) hf
    rcases fp_half q q2 q1 m (by omega) (by omega) with g | g
    · exact ⟨m, g, by unfold fp_tu; omega⟩
    · refine ⟨2 ^ q - 1 - m, g, ?_⟩
      unfold fp_tu
      rw [show 2 ^ q - 1 - (2 ^ q - 1 - m) = m by omega]
      omega
  · obtain ⟨f1, a1, a2⟩ := fp_tS_ex W q p ha
    obtain ⟨f2, b1, b2⟩ := fp_tS_ex W q (2 ^ q - 1 - p) ha
    obtain ⟨f, c1, c2⟩ := fp_mkd ha (fun x => if p / 2 ^ x % 2 = 1 then fp_dg a f1 x else fp_dg a f2 x) (fun x => by
      have u1 := fp_dg_lt (n := f1) (x := x) ha
      have u2 := fp_dg_lt (n := f2) (x := x) ha
      show (if _ then _ else _) < a
      split <;> omega) q
    have e1 : fp_tS W q a p f1 = fp_tS W q a p f := by
      unfold fp_tS
      rw [fp_gs_cg (f := f1) (f' := f) (fun x hx hm => by rw [c2 x hx, if_pos hm])]
    have e2 : fp_tS W q a (2 ^ q - 1 - p) f2 = fp_tS W q a (2 ^ q - 1 - p) f := by
      unfold fp_tS
      rw [fp_gs_cg (f := f2) (f' := f) (fun x hx hm => by
        have := (fp_cmpl q q2 p (by omega) (by omega) x hx).mp hm
        rw [c2 x hx, if_neg (by omega)])]
    have hp2 : p < 2 ^ q := by omega
    refine ⟨f * 2 ^ q + p, ?_, ?_⟩
    · have : (f + 1) * 2 ^ q ≤ a ^ q * 2 ^ q := Nat.mul_le_mul_right _ c1
      rw [Nat.succ_mul] at this
      omega
    · unfold fp_tv fp_tu
      rw [show (f * 2 ^ q + p) / 2 ^ q = f by rw [Nat.add_comm, Nat.add_mul_div_right _ _ h2pos, Nat.div_eq_of_lt hp2, Nat.zero_add], show (f * 2 ^ q + p) % 2 ^ q = p by rw [Nat.add_comm, Nat.add_mul_mod_self_right, Nat.mod_eq_of_lt hp2], a2, b2, e1, e2]
      omega
theorem fp_tv_b {W : Nat → Int} (hW : ∀ k, -1000 ≤ W k ∧ W k ≤ 1000) {q : Nat} (hq : q ≤ 3) (a t : Nat) : -18000 ≤ fp_tv W q a t ∧ fp_tv W q a t ≤ 18000 := by
  have h1 := (fp_bf_b hW hq a (2 ^ q - 1 - t % 2 ^ q) (t / 2 ^ q)).1
  have h2 := (fp_bf_b hW hq a (t % 2 ^ q) (t / 2 ^ q)).1
  have e1 : (fp_bf W q a (2 ^ q - 1 - t % 2 ^ q) (t / 2 ^ q)).1 = fp_tS W q a (2 ^ q - 1 - t % 2 ^ q) (t / 2 ^ q) := Int.add_zero _
  have e2 : (fp_bf W q a (t % 2 ^ q) (t / 2 ^ q)).1 = fp_tS W q a (t % 2 ^ q) (t / 2 ^ q) := Int.add_zero _
  unfold fp_tv
  omega
theorem fp_tu_b {W : Nat → Int} (hW : ∀ k, -1000 ≤ W k ∧ W k ≤ 1000) {q : Nat} (hq : q ≤ 3) (a p : Nat) : (-9000 ≤ (fp_su4 W q a p).1 ∧ (fp_su4 W q a p).1 ≤ 9000) ∧ -18000 ≤ fp_tu W q a p ∧ fp_tu W q a p ≤ 18000 := by
  have h1 := (fp_bk_b (B := fp_bf W q a p) (z := 9000) (fp_bf_b hW hq a p) (a ^ q - 1)).1
  have h2 := (fp_bk_b (B := fp_bf W q a (2 ^ q - 1 - p)) (z := 9000) (fp_bf_b hW hq a (2 ^ q - 1 - p)) (a ^ q - 1)).1
  unfold fp_tu fp_su4
  omega
theorem fp_bitc : ∀ m, m < 8 → ∀ x, x < 3 → ∀ c, c < 2 → ((((nI m >>> (nI x &&& 31)) &&& 1) = nI c) ↔ m / 2 ^ x % 2 = c) := by decide
theorem fp_shl : ∀ q, q ≤ 3 → (1 : Int32) <<< (nI q &&& 31) = nI (2 ^ q) := by decide
def fp_mk2 (q m c : Nat) : Nat := if c = 1 then m else 2 ^ q - 1 - m
theorem fp_mk2_bit {q m c x : Nat} (hq : q ≤ 3) (hm : m ≤ 2 ^ q - 1) (hc : c < 2) (hx : x < q) : fp_mk2 q m c / 2 ^ x % 2 = 1 ↔ m / 2 ^ x % 2 = c := by
  have h8 := fp_pw2 q hq
  unfold fp_mk2
  rcases (by omega : c = 0 ∨ c = 1) with rfl | rfl
  · rw [if_neg (by decide)]; exact fp_cmpl q hq m (by omega) hm x hx
  · rw [if_pos rfl]
def fp_st (v : Nat → Int) : Nat → Int
  | 0 => 0
  | n + 1 => fp_mm v n
def fp_ay (t : Nat) : Int32 := if t = 0 then 0 else 1
section FpTold
variable {L : Nat} {R : Nat → Nat → Option Nat} {I : Nat → Nat → Int32} {J : Nat → Nat → Int64}
theorem r_bestForIn (hR : fp_RK R) {q a : Nat} {W : Nat → Int} (hW : ∀ k, -1000 ≤ W k ∧ W k ≤ 1000) (hl : fp_lr I q a W) (q2 : q ≤ 3) (a1 : 2 ≤ a) (a2 : a ≤ 3) {f m y b c : Nat} (hf : f < 2 ^ 31) (hm : m ≤ 2 ^ q - 1) (hy : y < 3) (hb : b < 3) (hc : c < 2) (z : Int64) : pm_res mX7_bestFor 21 [(0, .ref 45), (1, .int (nI f)), (2, .int (nI m)), (3, .int (nI y)), (4, .int (nI c)), (5, .long z), (7, .int (nI b)), (8, .long 0), (10, .int 0)] [] (fp_m L R I J) = if nI b = 0 then pm_res mX7_bestFor 6 [(0, .ref 45), (1, .int (nI f)), (2, .int (nI m)), (3, .int (nI y)), (4, .int (nI c)), (5, .long (zL (fp_gs W q a (fp_mk2 q m c) f y b))), (7, .int (nI b + 1))] [] (fp_m L R I J) else if lg_cmp (zL (fp_gs W q a (fp_mk2 q m c) f y b)) z ≤ 0 then pm_res mX7_bestFor 6 [(0, .ref 45), (1, .int (nI f)), (2, .int (nI m)), (3, .int (nI y)), (4, .int (nI c)), (5, .long z), (7, .int (nI b + 1))] [] (fp_m L R I J) else pm_res mX7_bestFor 6 [(0, .ref 45), (1, .int (nI f)), (2, .int (nI m)), (3, .int (nI y)), (4, .int (nI c)), (5, .long (zL (fp_gs W q a (fp_mk2 q m c) f y b))), (7, .int (nI b + 1))] [] (fp_m L R I J) := by
  have h8 := fp_pw2 q q2
  have key := fp_lp0 (fun x => pm_res mX7_bestFor 21 [(0, .ref 45), (1, .int (nI f)), (2, .int (nI m)), (3, .int (nI y)), (4, .int (nI c)), (5, .long z), (7, .int (nI b)), (8, .long (zL (fp_sz (fun x => if fp_mk2 q m c / 2 ^ x % 2 = 1 then W (27 * x + 9 * y + 3 * fp_dg a f x + b) else 0) x))), (10, .int (nI x))] [] (fp_m L R I J)) q (fun x hx => by
    have u := fp_dg_lt (n := f) (x := x) a1
    have hpx := fp_pw3 a2 (show x ≤ 3 by omega)
    have hw := hW (27 * x + 9 * y + 3 * fp_dg a f x + b)
    have bi := fp_mk2_bit (q := q) q2 hm hc hx
    rw [e_X7_bestFor_21]
    simp only [gi_45, hl.1, hl.2.1, Option.bind_some]
    rw [if_neg (nI_ge hx (by omega)), fp_sz]
    by_cases h : m / 2 ^ x % 2 = c
    · rw [if_pos ((fp_bitc m (by omega) x (by omega) c hc).mpr h), if_pos (bi.mpr h), r_digit _ hf a1 (by omega) (by omega) (by omega), fp_oI']
      simp only [Option.bind_some, k_45, cond_true]
      rw [r_weight hR hl.2.2 (by omega) (by omega) (by omega) (by omega), fp_oI', Option.bind_some]
      dsimp only
      rw [zI_l (by omega) (by omega), zL_add, nI_1]
    · rw [if_neg (fun g => h ((fp_bitc m (by omega) x (by omega) c hc).mp g)), if_neg (fun g => h (bi.mp g)), Int.add_zero, show ∀ z : Int64, z + 0 = z from Int64.add_zero, nI_1])
  refine (show pm_res mX7_bestFor 21 [(0, .ref 45), (1, .int (nI f)), (2, .int (nI m)), (3, .int (nI y)), (4, .int (nI c)), (5, .long z), (7, .int (nI b)), (8, .long 0), (10, .int 0)] [] (fp_m L R I J) = _ from key).trans ?_
  rw [e_X7_bestFor_21]
  simp only [gi_45, hl.1, Option.bind_some]
  rw [if_pos (nI_le (Nat.le_refl _) (by omega))]
  rfl
theorem r_bestFor (hR : fp_RK R) {q a : Nat} {W : Nat → Int} (hW : ∀ k, -1000 ≤ W k ∧ W k ≤ 1000) (hl : fp_lr I q a W) (q2 : q ≤ 3) (a1 : 2 ≤ a) (a2 : a ≤ 3) {f m y c : Nat} (hf : f < 2 ^ 31) (hm : m ≤ 2 ^ q - 1) (hy : y < 3) (hc : c < 2) : pm_C mX7_bestFor [.ref 45, .int (nI f), .int (nI m), .int (nI y), .int (nI c)] (fp_m L R I J) = some (.long (zL (fp_am (fp_gs W q a (fp_mk2 q m c) f y) 0 (a - 1)).1), fp_m L R I J) := by
  have gb := fun b => fp_gs_b hW q2 a (fp_mk2 q m c) f y b
  have ab := fp_am_b (v := fp_gs W q a (fp_mk2 q m c) f y) (z := ((3000 : Nat) : Int)) gb 0
  have key := fp_lp0 (fun n => pm_res mX7_bestFor 6 [(0, .ref 45), (1, .int (nI f)), (2, .int (nI m)), (3, .int (nI y)), (4, .int (nI c)), (5, .long (zL (fp_am (fp_gs W q a (fp_mk2 q m c) f y) 0 n).1)), (7, .int (nI (n + 1)))] [] (fp_m L R I J)) (a - 1) (fun n hn => by
    have g := gb (n + 1)
    have A := ab n
    rw [e_X7_bestFor_6]
    simp only [gi_45, hl.2.1, Option.bind_some]
    rw [if_neg (nI_ge (show n + 1 < a by omega) (by omega)), r_bestForIn hR hW hl q2 a1 a2 hf hm hy (show n + 1 < 3 by omega) hc, if_neg (fp_ne (by omega) (by omega) (by decide)), fp_am, Nat.zero_add]
    generalize fp_gs W q a (fp_mk2 q m c) f y (n + 1) = x at *
    generalize fp_am (fp_gs W q a (fp_mk2 q m c) f y) 0 n = B at *
    have le := zL_le (a := x) (b := B.1) (by omega) (by omega) (by omega) (by omega)
    rcases fp_tri B.1 x with h | h | h
    · rw [if_neg (fun q => by have := le.mp (fp_cmp_le.mp q); omega), fp_cm_lt (A := B) (B := (x, n + 1, 1, x)) h, nI_1]
    · rw [if_pos (fp_cmp_le.mpr (le.mpr (by omega))), fp_cm_eq (A := B) (B := (x, n + 1, 1, x)) h, nI_1]
    · rw [if_pos (fp_cmp_le.mpr (le.mpr (by omega))), fp_cm_gt (A := B) (B := (x, n + 1, 1, x)) h, nI_1])
  rw [e_X7_bestFor, e_X7_bestFor_6]
  simp only [gi_45, hl.2.1, Option.bind_some]
  rw [if_neg (show ¬ nI a ≤ 0 from nI_nle (by omega) (by omega)), show pm_res mX7_bestFor 21 [(0, .ref 45), (1, .int (nI f)), (2, .int (nI m)), (3, .int (nI y)), (4, .int (nI c)), (5, .long 0), (7, .int 0), (8, .long 0), (10, .int 0)] [] (fp_m L R I J) = _ from r_bestForIn (b := 0) hR hW hl q2 a1 a2 hf hm hy (by decide) hc 0, if_pos (show nI 0 = 0 from rfl), nI_1]
  refine (show pm_res mX7_bestFor 6 [(0, .ref 45), (1, .int (nI f)), (2, .int (nI m)), (3, .int (nI y)), (4, .int (nI c)), (5, .long (zL (fp_gs W q a (fp_mk2 q m c) f y 0))), (7, .int (nI (0 + 1)))] [] (fp_m L R I J) = _ from key).trans ?_
  rw [e_X7_bestFor_6]
  simp only [gi_45, hl.2.1, Option.bind_some]
  rw [if_pos (nI_le (show a ≤ a - 1 + 1 by omega) (by omega))]
theorem r_toldStep (hR : fp_RK R) {q a : Nat} {W : Nat → Int} (hW : ∀ k, -1000 ≤ W k ∧ W k ≤ 1000) (hl : fp_lr I q a W) (q2 : q ≤ 3) (a1 : 2 ≤ a) (a2 : a ≤ 3) {f m : Nat} (hf : f < a ^ q) (hm : m < 2 ^ q) : pm_res mX7_bestTold 26 [(0, .ref 45), (1, .long (zL (fp_st (fp_tv W q a) (f * 2 ^ q + m)))), (3, .int (fp_ay (f * 2 ^ q + m))), (4, .int (nI f)), (5, .int (nI m))] [] (fp_m L R I J) = pm_res mX7_bestTold 26 [(0, .ref 45), (1, .long (zL (fp_st (fp_tv W q a) (f * 2 ^ q + m + 1)))), (3, .int (fp_ay (f * 2 ^ q + m + 1))), (4, .int (nI f)), (5, .int (nI (m + 1)))] [] (fp_m L R I J) := by
  have h8 := fp_pw2 q q2
  have hpw := fp_pw3 a2 q2
  have h2pos : 0 < 2 ^ q := Nat.pow_pos (by omega)
  rw [e_X7_bestTold_26]
  simp only [gi_45, hl.1, Option.bind_some]
  rw [fp_shl q q2, if_neg (nI_ge hm (by omega))]
  have key := fp_lp0 (fun y => pm_res mX7_bestTold 43 [(0, .ref 45), (1, .long (zL (fp_st (fp_tv W q a) (f * 2 ^ q + m)))), (3, .int (fp_ay (f * 2 ^ q + m))), (4, .int (nI f)), (5, .int (nI m)), (6, .long (zL (fp_sz (fun y => (fp_am (fp_gs W q a (2 ^ q - 1 - m) f y) 0 (a - 1)).1 + (fp_am (fp_gs W q a m f y) 0 (a - 1)).1) y))), (8, .int (nI y))] [] (fp_m L R I J)) q (fun y hy => by
    have r0 := r_bestFor (L := L) (J := J) (c := 0) hR hW hl q2 a1 a2 (show f < 2 ^ 31 by omega) (show m ≤ 2 ^ q - 1 by omega) (show y < 3 by omega) (by decide)
    have r1 := r_bestFor (L := L) (J := J) (c := 1) hR hW hl q2 a1 a2 (show f < 2 ^ 31 by omega) (show m ≤ 2 ^ q - 1 by omega) (show y < 3 by omega) (by decide)
    rw [show fp_mk2 q m 0 = 2 ^ q - 1 - m from if_neg (by decide)] at r0
    rw [show fp_mk2 q m 1 = m from if_pos rfl] at r1
    rw [e_X7_bestTold_43]
    simp only [gi_45, hl.1, Option.bind_some]
    rw [if_neg (nI_ge hy (by omega)), k_45, cond_true, show pm_C mX7_bestFor [.ref 45, .int (nI f), .int (nI m), .int (nI y), .int 0] (fp_m L R I J) = _ from r0, fp_oL', Option.bind_some]
    dsimp only
    rw [k_45, cond_true, show pm_C mX7_bestFor [.ref 45, .int (nI f), .int (nI m), .int (nI y), .int 1] (fp_m L R I J) = _ from r1, fp_oL', Option.bind_some]
    dsimp only
    rw [zL_add, zL_add, nI_1, fp_sz])
  refine (show pm_res mX7_bestTold 43 [(0, .ref 45), (1, .long (zL (fp_st (fp_tv W q a) (f * 2 ^ q + m)))), (3, .int (fp_ay (f * 2 ^ q + m))), (4, .int (nI f)), (5, .int (nI m)), (6, .long 0), (8, .int 0)] [] (fp_m L R I J) = _ from key).trans ?_
  have ev : fp_sz (fun y => (fp_am (fp_gs W q a (2 ^ q - 1 - m) f y) 0 (a - 1)).1 + (fp_am (fp_gs W q a m f y) 0 (a - 1)).1) q = fp_tv W q a (f * 2 ^ q + m) := by
    unfold fp_tv fp_tS
    rw [show (f * 2 ^ q + m) / 2 ^ q = f by rw [Nat.add_comm, Nat.add_mul_div_right _ _ h2pos, Nat.div_eq_of_lt hm, Nat.zero_add], show (f * 2 ^ q + m) % 2 ^ q = m by rw [Nat.add_comm, Nat.add_mul_mod_self_right, Nat.mod_eq_of_lt hm], fp_so_1, fp_so_1, fp_sz_add]
  rw [ev, e_X7_bestTold_43]
  simp only [gi_45, hl.1, Option.bind_some]
  rw [if_pos (nI_le (Nat.le_refl _) (by omega))]
  generalize f * 2 ^ q + m = t
  have tb := fp_tv_b hW q2 a
  cases t with
  | zero =>
    rw [if_pos (show fp_ay 0 = 0 from rfl), e_X7_bestTold_97, nI_1]
    rfl
  | succ t =>
    have b1 := tb (t + 1)
    have b2 := fp_mm_b (N := t) (n := t) (fun i _ => tb i) (Nat.le_refl _)
    rw [if_neg (show ¬ fp_ay (t + 1) = 0 by unfold fp_ay; rw [if_neg (by omega)]; decide), show fp_st (fp_tv W q a) (t + 1) = fp_mm (fp_tv W q a) t from rfl, show fp_st (fp_tv W q a) (t + 1 + 1) = if fp_mm (fp_tv W q a) t < fp_tv W q a (t + 1) then fp_tv W q a (t + 1) else fp_mm (fp_tv W q a) t from rfl, show fp_ay (t + 1 + 1) = 1 from if_neg (by omega)]
    have le := zL_le (a := fp_tv W q a (t + 1)) (b := fp_mm (fp_tv W q a) t) (by omega) (by omega) (by omega) (by omega)
    by_cases h : fp_mm (fp_tv W q a) t < fp_tv W q a (t + 1)
    · rw [if_neg (fun q => by have := le.mp (fp_cmp_le.mp q); omega), e_X7_bestTold_97, if_pos h, nI_1]
    · rw [if_pos (fp_cmp_le.mpr (le.mpr (by omega))), if_neg h, nI_1]
theorem r_bestTold (hR : fp_RK R) {q a : Nat} {W : Nat → Int} (hW : ∀ k, -1000 ≤ W k ∧ W k ≤ 1000) (hl : fp_lr I q a W) (q1 : 1 ≤ q) (q2 : q ≤ 3) (a1 : 2 ≤ a) (a2 : a ≤ 3) : pm_C mX7_bestTold [.ref 45] (fp_m L R I J) = some (.long (zL (fp_mm (fp_tu W q a) ((2 ^ q - 1) / 2))), fp_m L R I J) := by
  have h8 := fp_pw2 q q2
  have hpw := fp_pw3 a2 q2
  have h2pos : 0 < 2 ^ q := Nat.pow_pos (by omega)
  have hpos : 0 < a ^ q := Nat.pow_pos (by omega)
  have hPP : 0 < a ^ q * 2 ^ q := Nat.mul_pos hpos h2pos
  have pw : pm_C mX7_power [.int (nI a), .int (nI q)] (fp_m L R I J) = some (.int (nI (a ^ q)), fp_m L R I J) := r_power _ _ _ (by omega)
  have key := fp_lp0 (fun f => pm_res mX7_bestTold 7 [(0, .ref 45), (1, .long (zL (fp_st (fp_tv W q a) (f * 2 ^ q)))), (3, .int (fp_ay (f * 2 ^ q))), (4, .int (nI f))] [] (fp_m L R I J)) (a ^ q) (fun f hf => by
    rw [e_X7_bestTold_7]
    simp only [gi_45, hl.1, hl.2.1, Option.bind_some, pw, fp_oI']
    rw [if_neg (nI_ge hf (by omega))]
    have inner := fp_lp0 (fun m => pm_res mX7_bestTold 26 [(0, .ref 45), (1, .long (zL (fp_st (fp_tv W q a) (f * 2 ^ q + m)))), (3, .int (fp_ay (f * 2 ^ q + m))), (4, .int (nI f)), (5, .int (nI m))] [] (fp_m L R I J)) (2 ^ q) (fun m hm => r_toldStep hR hW hl q2 a1 a2 hf hm)
    rw [Nat.add_zero] at inner
    refine (show pm_res mX7_bestTold 26 [(0, .ref 45), (1, .long (zL (fp_st (fp_tv W q a) (f * 2 ^ q)))), (3, .int (fp_ay (f * 2 ^ q))), (4, .int (nI f)), (5, .int 0)] [] (fp_m L R I J) = _ from inner).trans ?_
    rw [e_X7_bestTold_26]
    simp only [gi_45, hl.1, Option.bind_some]
    rw [fp_shl q q2, if_pos (nI_le (Nat.le_refl _) (by omega)), nI_1, Nat.succ_mul])
  rw [e_X7_bestTold]
  rw [Nat.zero_mul] at key
  refine (show pm_res mX7_bestTold 7 [(0, .ref 45), (1, .long 0), (3, .int 0), (4, .int 0)] [] (fp_m L R I J) = _ from key).trans ?_
  rw [e_X7_bestTold_7]
  simp only [gi_45, hl.1, hl.2.1, Option.bind_some, pw, fp_oI']
  rw [if_pos (nI_le (Nat.le_refl _) (by omega)), ← fp_told q1 q2 a1, show a ^ q * 2 ^ q = a ^ q * 2 ^ q - 1 + 1 by omega]
  rfl
theorem c_bestTold (hR : fp_RK R) {q a : Nat} {W : Nat → Int} (hW : ∀ k, -1000 ≤ W k ∧ W k ≤ 1000) (hl : fp_lw I q a W) (q1 : 1 ≤ q) (q2 : q ≤ 3) (a1 : 2 ≤ a) (a2 : a ≤ 3) : ∃ I', pm_C mX3_bestTold [.ref 34] (fp_m L R I J) = some (.long (zL (fp_mm (fp_tu W q a) ((2 ^ q - 1) / 2))), fp_m L R I' J) ∧ I' 34 0 = I 34 0 ∧ I' 34 1 = I 34 1 ∧ ∀ i, i ≠ 34 → i ≠ 36 → I' i = I i := by
  have h8 := fp_pw2 q q2
  have tb := fp_tu_b hW q2 a
  obtain ⟨I2, p2, e2⟩ := fp_li0 (fun p (I' : Nat → Nat → Int32) => pm_res mX3_bestTold 9 [(0, .ref 34), (1, .int (nI (2 ^ q - 1))), (2, .int (zI (fp_st (fp_tu W q a) p))), (3, .int (nI p))] [] (fp_m L R I' J)) (fun p I' => I' 34 0 = I 34 0 ∧ I' 34 1 = I 34 1 ∧ ∀ i, i ≠ 34 → i ≠ 36 → I' i = I i) ((2 ^ q - 1) / 2 + 1) (fun p I' hp h => by
    have lw : ∀ I' : Nat → Nat → Int32, (I' 34 0 = I 34 0 ∧ I' 34 1 = I 34 1 ∧ ∀ i, i ≠ 34 → i ≠ 36 → I' i = I i) → fp_lw I' q a W := fun I' h => ⟨by rw [h.1]; exact hl.1, by rw [h.2.1]; exact hl.2.1, fun k hk => by rw [h.2.2 35 (by decide) (by decide)]; exact hl.2.2 k hk⟩
    obtain ⟨I3, c1, ⟨c2, -, -, -⟩, c3, c4, c5⟩ := c_survey (L := L) (J := J) (m := p) hR hW (lw I' h) q2 a1 a2 (by omega)
    have h3 : I3 34 0 = I 34 0 ∧ I3 34 1 = I 34 1 ∧ ∀ i, i ≠ 34 → i ≠ 36 → I3 i = I i := ⟨by rw [c3, h.1], by rw [c4, h.2.1], fun i g1 g2 => by rw [c5 i g1 g2, h.2.2 i g1 g2]⟩
    obtain ⟨I4, d1, ⟨d2, -, -, -⟩, d3, d4, d5⟩ := c_survey (L := L) (J := J) (m := 2 ^ q - 1 - p) hR hW (lw I3 h3) q2 a1 a2 (by omega)
    refine ⟨I4, ⟨by rw [d3, h3.1], by rw [d4, h3.2.1], fun i g1 g2 => by rw [d5 i g1 g2, h3.2.2 i g1 g2]⟩, ?_⟩
    have b1 := (tb p).2
    rw [e_X3_bestTold_9, nd_2 (by omega), if_neg (nI_nlt (by omega) (by omega)), k_34, cond_true, c1, fp_oV']
    simp only [gi_34, c2, Option.bind_some, k_34, cond_true]
    rw [pk_sub (by omega), d1, fp_oV']
    simp only [gi_34, d2, Option.bind_some, zI_add]
    rw [show (fp_su4 W q a p).1 + (fp_su4 W q a (2 ^ q - 1 - p)).1 = fp_tu W q a p from rfl, nI_1]
    cases p with
    | zero => rw [if_pos (show nI 0 = 0 from rfl)]; rfl
    | succ p =>
      have b2 := fp_mm_b (v := fp_tu W q a) (N := p) (n := p) (fun i _ => (tb i).2) (Nat.le_refl _)
      rw [if_neg (fp_ne (by omega) (by omega) (by decide)), show fp_st (fp_tu W q a) (p + 1) = fp_mm (fp_tu W q a) p from rfl, show fp_st (fp_tu W q a) (p + 1 + 1) = if fp_mm (fp_tu W q a) p < fp_tu W q a (p + 1) then fp_tu W q a (p + 1) else fp_mm (fp_tu W q a) p from rfl]
      have le := zI_le (a := fp_tu W q a (p + 1)) (b := fp_mm (fp_tu W q a) p) (by omega) (by omega) (by omega) (by omega)
      by_cases g : fp_mm (fp_tu W q a) p < fp_tu W q a (p + 1)
      · rw [if_neg (fun q => by have := le.mp q; omega), if_pos g]
      · rw [if_pos (le.mpr (by omega)), if_neg g]) (s := I) ⟨rfl, rfl, fun _ _ _ => rfl⟩
  refine ⟨I2, ?_, p2⟩
  have bm := fp_mm_b (v := fp_tu W q a) (N := (2 ^ q - 1) / 2) (n := (2 ^ q - 1) / 2) (fun i _ => (tb i).2) (Nat.le_refl _)
  rw [e_X3_bestTold, k_34, cond_true, c_allQ hl.1 q2, fp_oI', Option.bind_some]
  refine (show pm_res mX3_bestTold 9 [(0, .ref 34), (1, .int (nI (2 ^ q - 1))), (2, .int 0), (3, .int 0)] [] (fp_m L R I J) = _ from e2).trans ?_
  rw [e_X3_bestTold_9, nd_2 (by omega), if_pos (nI_lt (by omega) (by omega)), show fp_st (fp_tu W q a) ((2 ^ q - 1) / 2 + 1) = fp_mm (fp_tu W q a) ((2 ^ q - 1) / 2) from rfl, zI_l (by omega) (by omega)]
end FpTold
