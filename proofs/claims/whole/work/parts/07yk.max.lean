/-! the greatest: value, least place, how many, the least value -/
abbrev fp_q4 : Type := Int × Nat × Nat × Int
def fp_cm (A B : fp_q4) : fp_q4 := if A.1 < B.1 then (B.1, B.2.1, B.2.2.1, min A.2.2.2 B.2.2.2) else if A.1 = B.1 then (A.1, A.2.1, A.2.2.1 + B.2.2.1, min A.2.2.2 B.2.2.2) else (A.1, A.2.1, A.2.2.1, min A.2.2.2 B.2.2.2)
theorem fp_cm_lt {A B : fp_q4} (h : A.1 < B.1) : fp_cm A B = (B.1, B.2.1, B.2.2.1, min A.2.2.2 B.2.2.2) := if_pos h
theorem fp_cm_eq {A B : fp_q4} (h : A.1 = B.1) : fp_cm A B = (A.1, A.2.1, A.2.2.1 + B.2.2.1, min A.2.2.2 B.2.2.2) := by
  unfold fp_cm
  rw [if_neg (by omega), if_pos h]
theorem fp_cm_gt {A B : fp_q4} (h : B.1 < A.1) : fp_cm A B = (A.1, A.2.1, A.2.2.1, min A.2.2.2 B.2.2.2) := by
  unfold fp_cm
  rw [if_neg (by omega), if_neg (by omega)]
theorem fp_tri (a b : Int) : a < b ∨ a = b ∨ b < a := by omega
theorem fp_q4_ext {A B : fp_q4} (h1 : A.1 = B.1) (h2 : A.2.1 = B.2.1) (h3 : A.2.2.1 = B.2.2.1) (h4 : A.2.2.2 = B.2.2.2) : A = B := by
  obtain ⟨a1, a2, a3, a4⟩ := A
  obtain ⟨b1, b2, b3, b4⟩ := B
  simp only at h1 h2 h3 h4
  rw [h1, h2, h3, h4]
theorem fp_cm_assoc (A B C : fp_q4) : fp_cm (fp_cm A B) C = fp_cm A (fp_cm B C) := by
  obtain ⟨a1, a2, a3, a4⟩ := A
  obtain ⟨b1, b2, b3, b4⟩ := B
  obtain ⟨c1, c2, c3, c4⟩ := C
  rcases fp_tri a1 b1 with h1 | h1 | h1 <;> rcases fp_tri b1 c1 with h2 | h2 | h2
  · rw [fp_cm_lt (A := (a1, a2, a3, a4)) (B := (b1, b2, b3, b4)) h1, fp_cm_lt (B := (c1, c2, c3, c4)) h2, fp_cm_lt (A := (b1, b2, b3, b4)) (B := (c1, c2, c3, c4)) h2, fp_cm_lt (A := (a1, a2, a3, a4)) (by show a1 < c1; omega)]
    refine fp_q4_ext rfl rfl rfl ?_
    dsimp only
    omega
  · rw [fp_cm_lt (A := (a1, a2, a3, a4)) (B := (b1, b2, b3, b4)) h1, fp_cm_eq (B := (c1, c2, c3, c4)) h2, fp_cm_eq (A := (b1, b2, b3, b4)) (B := (c1, c2, c3, c4)) h2, fp_cm_lt (A := (a1, a2, a3, a4)) (by show a1 < b1; omega)]
    refine fp_q4_ext rfl rfl rfl ?_
    dsimp only
    omega
  · rw [fp_cm_lt (A := (a1, a2, a3, a4)) (B := (b1, b2, b3, b4)) h1, fp_cm_gt (B := (c1, c2, c3, c4)) h2, fp_cm_gt (A := (b1, b2, b3, b4)) (B := (c1, c2, c3, c4)) h2, fp_cm_lt (A := (a1, a2, a3, a4)) (by show a1 < b1; omega)]
    refine fp_q4_ext rfl rfl rfl ?_
    dsimp only
    omega
  · rw [fp_cm_eq (A := (a1, a2, a3, a4)) (B := (b1, b2, b3, b4)) h1, fp_cm_lt (B := (c1, c2, c3, c4)) (by show a1 < c1; omega), fp_cm_lt (A := (b1, b2, b3, b4)) (B := (c1, c2, c3, c4)) h2, fp_cm_lt (A := (a1, a2, a3, a4)) (by show a1 < c1; omega)]
    refine fp_q4_ext rfl rfl rfl ?_
    dsimp only
    omega
  · rw [fp_cm_eq (A := (a1, a2, a3, a4)) (B := (b1, b2, b3, b4)) h1, fp_cm_eq (B := (c1, c2, c3, c4)) (by show a1 = c1; omega), fp_cm_eq (A := (b1, b2, b3, b4)) (B := (c1, c2, c3, c4)) h2, fp_cm_eq (A := (a1, a2, a3, a4)) (by show a1 = b1; omega)]
    refine fp_q4_ext rfl rfl ?_ ?_
    · dsimp only
      omega
    · dsimp only
      omega
  · rw [fp_cm_eq (A := (a1, a2, a3, a4)) (B := (b1, b2, b3, b4)) h1, fp_cm_gt (B := (c1, c2, c3, c4)) (by show c1 < a1; omega), fp_cm_gt (A := (b1, b2, b3, b4)) (B := (c1, c2, c3, c4)) h2, fp_cm_eq (A := (a1, a2, a3, a4)) (by show a1 = b1; omega)]
    refine fp_q4_ext rfl rfl rfl ?_
    dsimp only
    omega
  · rw [fp_cm_gt (A := (a1, a2, a3, a4)) (B := (b1, b2, b3, b4)) h1, fp_cm_lt (A := (b1, b2, b3, b4)) (B := (c1, c2, c3, c4)) h2]
    rcases fp_tri a1 c1 with h3 | h3 | h3
    · rw [fp_cm_lt (B := (c1, c2, c3, c4)) (by show a1 < c1; omega), fp_cm_lt (A := (a1, a2, a3, a4)) (by show a1 < c1; omega)]
      refine fp_q4_ext rfl rfl rfl ?_
      dsimp only
      omega
    · rw [fp_cm_eq (B := (c1, c2, c3, c4)) (by show a1 = c1; omega), fp_cm_eq (A := (a1, a2, a3, a4)) (by show a1 = c1; omega)]
      refine fp_q4_ext rfl rfl rfl ?_
      dsimp only
      omega
    · rw [fp_cm_gt (B := (c1, c2, c3, c4)) (by show c1 < a1; omega), fp_cm_gt (A := (a1, a2, a3, a4)) (by show c1 < a1; omega)]
      refine fp_q4_ext rfl rfl rfl ?_
      dsimp only
      omega
  · rw [fp_cm_gt (A := (a1, a2, a3, a4)) (B := (b1, b2, b3, b4)) h1, fp_cm_eq (A := (b1, b2, b3, b4)) (B := (c1, c2, c3, c4)) h2, fp_cm_gt (B := (c1, c2, c3, c4)) (by show c1 < a1; omega), fp_cm_gt (A := (a1, a2, a3, a4)) (by show b1 < a1; omega)]
    refine fp_q4_ext rfl rfl rfl ?_
    dsimp only
    omega
  · rw [fp_cm_gt (A := (a1, a2, a3, a4)) (B := (b1, b2, b3, b4)) h1, fp_cm_gt (A := (b1, b2, b3, b4)) (B := (c1, c2, c3, c4)) h2, fp_cm_gt (B := (c1, c2, c3, c4)) (by show c1 < a1; omega), fp_cm_gt (A := (a1, a2, a3, a4)) (by show b1 < a1; omega)]
    refine fp_q4_ext rfl rfl rfl ?_
    dsimp only
    omega
/-- of the places s .. s + n -/
def fp_am (v : Nat → Int) (s : Nat) : Nat → fp_q4
  | 0 => (v s, s, 1, v s)
  | n + 1 => fp_cm (fp_am v s n) (v (s + n + 1), s + n + 1, 1, v (s + n + 1))
theorem fp_am_cat (v : Nat → Int) (s n : Nat) : ∀ k, fp_am v s (n + 1 + k) = fp_cm (fp_am v s n) (fp_am v (s + n + 1) k)
  | 0 => rfl
  | k + 1 => by
    rw [show n + 1 + (k + 1) = (n + 1 + k) + 1 by omega, fp_am, fp_am_cat v s n k, fp_cm_assoc, fp_am, show s + (n + 1 + k) + 1 = s + n + 1 + k + 1 by omega]
/-- blocks -/
def fp_bk (B : Nat → fp_q4) : Nat → fp_q4
  | 0 => B 0
  | n + 1 => fp_cm (fp_bk B n) (B (n + 1))
theorem fp_bk_cong {B B' : Nat → fp_q4} : ∀ n, (∀ i, i ≤ n → B i = B' i) → fp_bk B n = fp_bk B' n
  | 0, h => h 0 (Nat.le_refl _)
  | n + 1, h => by rw [fp_bk, fp_bk, fp_bk_cong n (fun i hi => h i (by omega)), h (n + 1) (Nat.le_refl _)]
theorem fp_bk_am {v : Nat → Int} {B : Nat → fp_q4} {P : Nat} (hP : 1 ≤ P) : ∀ n, (∀ f, f ≤ n → B f = fp_am v (f * P) (P - 1)) → fp_am v 0 ((n + 1) * P - 1) = fp_bk B n
  | 0, h => by
    rw [fp_bk, h 0 (Nat.le_refl _), Nat.zero_mul, Nat.zero_add, Nat.one_mul]
  | n + 1, h => by
    have hp : P ≤ (n + 1) * P := by rw [Nat.succ_mul]; omega
    have e : (n + 1 + 1) * P - 1 = ((n + 1) * P - 1) + 1 + (P - 1) := by rw [Nat.succ_mul (n + 1)]; omega
    rw [e, fp_am_cat, fp_bk_am hP n (fun f hf => h f (by omega)), fp_bk, h (n + 1) (Nat.le_refl _), show 0 + ((n + 1) * P - 1) + 1 = (n + 1) * P by omega]
/-- moved by c, from place s on -/
def fp_qs (c : Int) (s : Nat) (A : fp_q4) : fp_q4 := (A.1 + c, s + A.2.1, A.2.2.1, A.2.2.2 + c)
theorem fp_cm_qs (c : Int) (s : Nat) (A B : fp_q4) : fp_cm (fp_qs c s A) (fp_qs c s B) = fp_qs c s (fp_cm A B) := by
  rcases fp_tri A.1 B.1 with h | h | h
  · rw [fp_cm_lt (A := fp_qs c s A) (B := fp_qs c s B) (by show A.1 + c < B.1 + c; omega), fp_cm_lt h]
    refine fp_q4_ext rfl rfl rfl ?_
    show min (A.2.2.2 + c) (B.2.2.2 + c) = min A.2.2.2 B.2.2.2 + c
    omega
  · rw [fp_cm_eq (A := fp_qs c s A) (B := fp_qs c s B) (by show A.1 + c = B.1 + c; omega), fp_cm_eq h]
    refine fp_q4_ext rfl rfl rfl ?_
    show min (A.2.2.2 + c) (B.2.2.2 + c) = min A.2.2.2 B.2.2.2 + c
    omega
  · rw [fp_cm_gt (A := fp_qs c s A) (B := fp_qs c s B) (by show B.1 + c < A.1 + c; omega), fp_cm_gt h]
    refine fp_q4_ext rfl rfl rfl ?_
    show min (A.2.2.2 + c) (B.2.2.2 + c) = min A.2.2.2 B.2.2.2 + c
    omega
theorem fp_am_qs {v u : Nat → Int} {c : Int} {s : Nat} : ∀ n, (∀ i, i ≤ n → v (s + i) = u i + c) → fp_am v s n = fp_qs c s (fp_am u 0 n)
  | 0, h => by
    have := h 0 (Nat.le_refl _)
    rw [Nat.add_zero] at this
    refine fp_q4_ext ?_ rfl rfl ?_ <;> exact this
  | n + 1, h => by
    have := h (n + 1) (Nat.le_refl _)
    rw [fp_am, fp_am, fp_am_qs n (fun i hi => h i (by omega)), ← fp_cm_qs, show s + n + 1 = s + (n + 1) by omega, this, Nat.zero_add]
    rfl
/-- a whole of S and of a digit above it -/
def fp_qm (P : Nat) (S A : fp_q4) : fp_q4 := (S.1 + A.1, S.2.1 + A.2.1 * P, S.2.2.1 * A.2.2.1, S.2.2.2 + A.2.2.2)
theorem fp_bk_qs (w : Nat → Int) (P : Nat) (S : fp_q4) : ∀ n, fp_bk (fun f => fp_qs (w f) (f * P) S) n = fp_qm P S (fp_am w 0 n)
  | 0 => by
    refine fp_q4_ext rfl ?_ ?_ rfl
    · show 0 * P + S.2.1 = S.2.1 + 0 * P
      omega
    · show S.2.2.1 = S.2.2.1 * 1
      omega
  | n + 1 => by
    rw [fp_bk, fp_bk_qs w P S n, fp_am, Nat.zero_add]
    generalize fp_am w 0 n = A
    rcases fp_tri A.1 (w (n + 1)) with h | h | h
    · rw [fp_cm_lt (A := fp_qm P S A) (B := fp_qs (w (n + 1)) ((n + 1) * P) S) (by show S.1 + A.1 < S.1 + w (n + 1); omega), fp_cm_lt (A := A) (B := (w (n + 1), n + 1, 1, w (n + 1))) h]
      refine fp_q4_ext rfl ?_ ?_ ?_
      · show (n + 1) * P + S.2.1 = S.2.1 + (n + 1) * P
        omega
      · show S.2.2.1 = S.2.2.1 * 1
        omega
      · show min (S.2.2.2 + A.2.2.2) (S.2.2.2 + w (n + 1)) = S.2.2.2 + min A.2.2.2 (w (n + 1))
        omega
    · rw [fp_cm_eq (A := fp_qm P S A) (B := fp_qs (w (n + 1)) ((n + 1) * P) S) (by show S.1 + A.1 = S.1 + w (n + 1); omega), fp_cm_eq (A := A) (B := (w (n + 1), n + 1, 1, w (n + 1))) h]
      refine fp_q4_ext rfl rfl ?_ ?_
      · show S.2.2.1 * A.2.2.1 + S.2.2.1 = S.2.2.1 * (A.2.2.1 + 1)
        rw [Nat.mul_add, Nat.mul_one]
      · show min (S.2.2.2 + A.2.2.2) (S.2.2.2 + w (n + 1)) = S.2.2.2 + min A.2.2.2 (w (n + 1))
        omega
    · rw [fp_cm_gt (A := fp_qm P S A) (B := fp_qs (w (n + 1)) ((n + 1) * P) S) (by show S.1 + w (n + 1) < S.1 + A.1; omega), fp_cm_gt (A := A) (B := (w (n + 1), n + 1, 1, w (n + 1))) h]
      refine fp_q4_ext rfl rfl rfl ?_
      show min (S.2.2.2 + A.2.2.2) (S.2.2.2 + w (n + 1)) = S.2.2.2 + min A.2.2.2 (w (n + 1))
      omega
/-- sums over digits: each digit by itself -/
def fp_so (h : Nat → Nat → Int) (a : Nat) : Nat → fp_q4
  | 0 => (0, 0, 1, 0)
  | Q + 1 => fp_qm (a ^ Q) (fp_so h a Q) (fp_am (h Q) 0 (a - 1))
theorem fp_dg_lo {a f P i y Q : Nat} (hP : P = a ^ Q) (ha : 2 ≤ a) (hy : y < Q) : fp_dg a (f * P + i) y = fp_dg a i y := by
  unfold fp_dg
  have e : P = a ^ y * a * a ^ (Q - y - 1) := by rw [hP, ← Nat.pow_succ, ← Nat.pow_add]; congr 1; omega
  have hpos : 0 < a ^ y := Nat.pow_pos (by omega)
  rw [e, show f * (a ^ y * a * a ^ (Q - y - 1)) + i = i + a ^ y * (a * (f * a ^ (Q - y - 1))) by
    rw [Nat.add_comm]
    congr 1
    rw [Nat.mul_comm f, Nat.mul_assoc, Nat.mul_assoc, Nat.mul_comm f]]
  rw [Nat.add_mul_div_left _ _ hpos, Nat.add_mul_mod_self_left]
theorem fp_dg_hi {a f P i Q : Nat} (hP : P = a ^ Q) (hi : i < P) (hf : f < a) : fp_dg a (f * P + i) Q = f := by
  unfold fp_dg
  rw [← hP, Nat.add_comm, Nat.add_mul_div_right _ _ (show 0 < P by omega), Nat.div_eq_of_lt hi, Nat.zero_add, Nat.mod_eq_of_lt hf]
theorem fp_so_am (h : Nat → Nat → Int) {a : Nat} (ha : 2 ≤ a) : ∀ Q, fp_am (fun g => fp_sz (fun y => h y (fp_dg a g y)) Q) 0 (a ^ Q - 1) = fp_so h a Q
  | 0 => rfl
  | Q + 1 => by
    have hP : 1 ≤ a ^ Q := Nat.pow_pos (by omega)
    have e : a ^ (Q + 1) - 1 = (a - 1 + 1) * a ^ Q - 1 := by rw [show a - 1 + 1 = a by omega, Nat.pow_succ, Nat.mul_comm]
    rw [e, fp_bk_am (B := fun f => fp_qs (h Q f) (f * a ^ Q) (fp_so h a Q)) hP (a - 1) (fun f hf => ?_), fp_bk_qs]
    · rfl
    · rw [← fp_so_am h ha Q]
      refine (fp_am_qs _ (fun i hi => ?_)).symm
      show fp_sz _ (Q + 1) = _
      rw [fp_sz, fp_dg_hi rfl (by omega) (by omega)]
      congr 1
      exact fp_sz_cong Q (fun y hy => by rw [fp_dg_lo rfl ha hy])
/-- bounds -/
theorem fp_cm_b {A B : fp_q4} {z : Int} (h1 : -z ≤ A.1 ∧ A.1 ≤ z) (h2 : -z ≤ B.1 ∧ B.1 ≤ z) (h3 : -z ≤ A.2.2.2 ∧ A.2.2.2 ≤ z) (h4 : -z ≤ B.2.2.2 ∧ B.2.2.2 ≤ z) : (-z ≤ (fp_cm A B).1 ∧ (fp_cm A B).1 ≤ z) ∧ -z ≤ (fp_cm A B).2.2.2 ∧ (fp_cm A B).2.2.2 ≤ z := by
  have h : (fp_cm A B).2.2.2 = min A.2.2.2 B.2.2.2 := by
    unfold fp_cm
    split
    · rfl
    · split <;> rfl
  have g : (fp_cm A B).1 = A.1 ∨ (fp_cm A B).1 = B.1 := by
    unfold fp_cm
    split
    · exact Or.inr rfl
    · split <;> exact Or.inl rfl
  rw [h]
  refine ⟨?_, by omega⟩
  rcases g with g | g <;> rw [g]
  · exact h1
  · exact h2
theorem fp_cm_n {A B : fp_q4} : ((fp_cm A B).2.1 = A.2.1 ∨ (fp_cm A B).2.1 = B.2.1) ∧ (fp_cm A B).2.2.1 ≤ A.2.2.1 + B.2.2.1 := by
  unfold fp_cm
  split
  · exact ⟨Or.inr rfl, by dsimp only; omega⟩
  · split
    · exact ⟨Or.inl rfl, by dsimp only; omega⟩
    · exact ⟨Or.inl rfl, by dsimp only; omega⟩
theorem fp_am_b {v : Nat → Int} {z : Int} (h : ∀ i, -z ≤ v i ∧ v i ≤ z) (s : Nat) : ∀ n, (-z ≤ (fp_am v s n).1 ∧ (fp_am v s n).1 ≤ z) ∧ -z ≤ (fp_am v s n).2.2.2 ∧ (fp_am v s n).2.2.2 ≤ z
  | 0 => ⟨h s, h s⟩
  | n + 1 => fp_cm_b (fp_am_b h s n).1 (h _) (fp_am_b h s n).2 (h _)
theorem fp_am_n (v : Nat → Int) (s : Nat) : ∀ n, (fp_am v s n).2.1 ≤ s + n ∧ (fp_am v s n).2.2.1 ≤ n + 1
  | 0 => ⟨Nat.le_refl _, Nat.le_refl _⟩
  | n + 1 => by
    have h1 := fp_am_n v s n
    have h2 := fp_cm_n (A := fp_am v s n) (B := (v (s + n + 1), s + n + 1, 1, v (s + n + 1)))
    rw [fp_am]
    dsimp only at h2
    omega
theorem fp_bk_b {B : Nat → fp_q4} {z : Int} (h : ∀ i, (-z ≤ (B i).1 ∧ (B i).1 ≤ z) ∧ -z ≤ (B i).2.2.2 ∧ (B i).2.2.2 ≤ z) : ∀ n, (-z ≤ (fp_bk B n).1 ∧ (fp_bk B n).1 ≤ z) ∧ -z ≤ (fp_bk B n).2.2.2 ∧ (fp_bk B n).2.2.2 ≤ z
  | 0 => h 0
  | n + 1 => fp_cm_b (fp_bk_b h n).1 (h _).1 (fp_bk_b h n).2 (h _).2
theorem fp_so_b {h : Nat → Nat → Int} {z : Nat} (hb : ∀ y b, -(z : Int) ≤ h y b ∧ h y b ≤ z) (a : Nat) : ∀ Q : Nat, (-((Q * z : Nat) : Int) ≤ (fp_so h a Q).1 ∧ (fp_so h a Q).1 ≤ ((Q * z : Nat) : Int)) ∧ -((Q * z : Nat) : Int) ≤ (fp_so h a Q).2.2.2 ∧ (fp_so h a Q).2.2.2 ≤ ((Q * z : Nat) : Int)
  | 0 => by simp [fp_so]
  | Q + 1 => by
    have h1 := fp_so_b hb a Q
    have h2 := fp_am_b (z := z) (hb Q) 0 (a - 1)
    rw [fp_so, Nat.succ_mul]
    show (_ ≤ (fp_so h a Q).1 + (fp_am (h Q) 0 (a - 1)).1 ∧ (fp_so h a Q).1 + (fp_am (h Q) 0 (a - 1)).1 ≤ _) ∧ _ ≤ (fp_so h a Q).2.2.2 + (fp_am (h Q) 0 (a - 1)).2.2.2 ∧ (fp_so h a Q).2.2.2 + (fp_am (h Q) 0 (a - 1)).2.2.2 ≤ _
    omega
theorem fp_sz_swap (w : Nat → Nat → Int) (n : Nat) : ∀ m, fp_sz (fun x => fp_sz (fun y => w x y) n) m = fp_sz (fun y => fp_sz (fun x => w x y) m) n
  | 0 => by
    have : ∀ n, fp_sz (fun _ => (0 : Int)) n = 0 := fun n => by
      induction n with
      | zero => rfl
      | succ n ih => rw [fp_sz, ih]; rfl
    exact (this n).symm
  | m + 1 => by
    have add : ∀ (f g : Nat → Int) n, fp_sz (fun y => f y + g y) n = fp_sz f n + fp_sz g n := fun f g n => by
      induction n with
      | zero => rfl
      | succ n ih => rw [fp_sz, fp_sz, fp_sz, ih]; omega
    rw [fp_sz, fp_sz_swap w n m, ← add]
    rfl
