/-! THE STATE that both sides hold, in numbers: tables, changes kept, the law in hand, shares. -/
abbrev fp_T : Type := Nat × Nat × Nat × (Nat → Nat)
def fp_in (q a j : Nat) : Prop := j < 81 ∧ j / 27 < q ∧ j / 9 % 3 < q ∧ j / 3 % 3 < a ∧ j % 3 < a
def fp_okT (T : fp_T) : Prop := (T.1 = 0 ∧ T.2.1 = 0 ∧ T.2.2.1 = 0 ∧ ∀ j, T.2.2.2 j = 0) ∨ (1 ≤ T.1 ∧ T.1 ≤ 3 ∧ 2 ≤ T.2.1 ∧ T.2.1 ≤ 3 ∧ 1 ≤ T.2.2.1 ∧ T.2.2.1 ≤ 1000000 ∧ (∀ j, T.2.2.2 j ≤ T.2.2.1) ∧ ∀ j, ¬ fp_in T.1 T.2.1 j → T.2.2.2 j = 0)
def fp_at (I : Nat → Nat → Int32) (r : Nat) (T : fp_T) : Prop := I r 0 = nI T.1 ∧ I r 1 = nI T.2.1 ∧ I r 2 = nI T.2.2.1 ∧ ∀ j, j < 81 → I (r + 1) j = nI (T.2.2.2 j)
abbrev fp_S : Type := (Nat → fp_T) × List (Nat × fp_T) × Nat × Nat × (Nat → Int) × (Nat → Nat)
/-- the changes kept, in the class: a ring of six -/
def fp_ring (I : Nat → Nat → Int32) (h : List (Nat × fp_T)) : Prop := ∃ nx, nx < 6 ∧ I 19 2 = nI nx ∧ I 19 3 = nI h.length ∧ ∀ (j : Nat) (p : Nat × fp_T), h[j]? = some p → I 21 ((nx + 5 - j) % 6) = nI p.1 ∧ fp_at I (22 + 2 * ((nx + 5 - j) % 6)) p.2
def fp_shC (I : Nat → Nat → Int32) (s : Nat → Nat) : Prop := ∃ (n : Nat) (num : Nat → Nat), n ≤ 30 ∧ I 37 2 = nI n ∧ (∀ i, i < n → I 38 i = nI (num i) ∧ I 39 i = nI (s (num i)) ∧ s (num i) ≠ 0 ∧ num i < 729) ∧ (∀ i j, i < n → j < n → num i = num j → i = j) ∧ ∀ k, s k ≠ 0 → ∃ i, i < n ∧ num i = k
def fp_CR (S : fp_S) (I : Nat → Nat → Int32) : Prop := (∀ t, t < 8 → fp_at I (3 + 2 * t) (S.1 t)) ∧ fp_ring I S.2.1 ∧ (I 34 0 = nI S.2.2.1 ∧ I 34 1 = nI S.2.2.2.1 ∧ ∀ k, k < 81 → I 35 k = Int32.ofInt (S.2.2.2.2.1 k)) ∧ fp_shC I S.2.2.2.2.2
/-- the reference's row of a table -/
def fp_flat (tb : Nat → fp_T) (i : Nat) : Int32 := if i % 84 = 0 then nI (tb (i / 84)).1 else if i % 84 = 1 then nI (tb (i / 84)).2.1 else if i % 84 = 2 then nI (tb (i / 84)).2.2.1 else nI ((tb (i / 84)).2.2.2 (i % 84 - 3))
/-- the tables as they were n changes ago -/
def fp_und : Nat → (Nat → fp_T) → List (Nat × fp_T) → (Nat → fp_T)
  | 0, tb, _ => tb
  | _ + 1, tb, [] => tb
  | n + 1, tb, p :: h => fp_und n (va_up tb p.1 p.2) h
def fp_MR (S : fp_S) (I : Nat → Nat → Int32) : Prop := (∀ i, i < 672 → I 46 i = fp_flat S.1 i) ∧ (I 45 2 = nI S.2.1.length ∧ ∀ j, j < S.2.1.length → ∀ i, i < 672 → I 47 (672 * (S.2.1.length - 1 - j) + i) = fp_flat (fp_und (j + 1) S.1 S.2.1) i) ∧ (I 45 3 = nI S.2.2.1 ∧ I 45 4 = nI S.2.2.2.1 ∧ ∀ k, k < 81 → I 48 k = Int32.ofInt (S.2.2.2.2.1 k)) ∧ ∀ n, n < 729 → I 49 n = nI (S.2.2.2.2.2 n)
def fp_ok (S : fp_S) : Prop := (∀ t, t < 8 → fp_okT (S.1 t)) ∧ (S.2.1.length ≤ 6 ∧ ∀ p ∈ S.2.1, p.1 < 8 ∧ fp_okT p.2) ∧ (1 ≤ S.2.2.1 ∧ S.2.2.1 ≤ 3 ∧ 2 ≤ S.2.2.2.1 ∧ S.2.2.2.1 ≤ 3 ∧ (∀ k, -1000 ≤ S.2.2.2.2.1 k ∧ S.2.2.2.2.1 k ≤ 1000) ∧ ∀ k, ¬ fp_in S.2.2.1 S.2.2.2.1 k → S.2.2.2.2.1 k = 0) ∧ (∀ n, S.2.2.2.2.2 n ≤ 1000000) ∧ ∀ n, S.2.2.2.1 ^ (2 * S.2.2.1) ≤ n → S.2.2.2.2.2 n = 0
theorem fp_at_cong {I I' : Nat → Nat → Int32} {r : Nat} {T : fp_T} (h : fp_at I r T) (h1 : I' r = I r) (h2 : I' (r + 1) = I (r + 1)) : fp_at I' r T := by
  unfold fp_at at *
  rw [h1, h2]
  exact h
theorem fp_ring_cong {I I' : Nat → Nat → Int32} {h : List (Nat × fp_T)} (hr : fp_ring I h) (hc : ∀ i, 19 ≤ i → i ≤ 33 → I' i = I i) (hl : h.length ≤ 6) : fp_ring I' h := by
  obtain ⟨nx, h1, h2, h3, h4⟩ := hr
  refine ⟨nx, h1, by rw [hc 19 (by omega) (by omega)]; exact h2, by rw [hc 19 (by omega) (by omega)]; exact h3, fun j p hp => ?_⟩
  obtain ⟨h5, h6⟩ := h4 j p hp
  have hm : (nx + 5 - j) % 6 < 6 := Nat.mod_lt _ (by decide)
  exact ⟨by rw [hc 21 (by omega) (by omega)]; exact h5, fp_at_cong h6 (hc _ (by omega) (by omega)) (hc _ (by omega) (by omega))⟩
theorem fp_CR_cong {S : fp_S} {I I' : Nat → Nat → Int32} (h : fp_CR S I) (hl : S.2.1.length ≤ 6) (hc : ∀ i, 1 ≤ i → i < 40 → I' i = I i) : fp_CR S I' := by
  obtain ⟨h1, h2, ⟨h3, h4, h5⟩, n, num, h6, h7, h8, h9, h10⟩ := h
  refine ⟨fun t ht => fp_at_cong (h1 t ht) (hc _ (by omega) (by omega)) (hc _ (by omega) (by omega)), fp_ring_cong h2 (fun i a b => hc i (by omega) (by omega)) hl, ⟨?_, ?_, fun k hk => ?_⟩, n, num, h6, ?_, fun i hi => ?_, h9, h10⟩
  · rw [hc 34 (by omega) (by omega)]; exact h3
  · rw [hc 34 (by omega) (by omega)]; exact h4
  · rw [hc 35 (by omega) (by omega)]; exact h5 k hk
  · rw [hc 37 (by omega) (by omega)]; exact h7
  · rw [hc 38 (by omega) (by omega), hc 39 (by omega) (by omega)]; exact h8 i hi
theorem fp_MR_cong {S : fp_S} {I I' : Nat → Nat → Int32} (h : fp_MR S I) (hc : ∀ i, 45 ≤ i → i < 50 → I' i = I i) : fp_MR S I' := by
  obtain ⟨h1, ⟨h2, h3⟩, ⟨h4, h5, h6⟩, h7⟩ := h
  refine ⟨fun i hi => ?_, ⟨?_, fun j hj i hi => ?_⟩, ⟨?_, ?_, fun k hk => ?_⟩, fun n hn => ?_⟩
  · rw [hc 46 (by omega) (by omega)]; exact h1 i hi
  · rw [hc 45 (by omega) (by omega)]; exact h2
  · rw [hc 47 (by omega) (by omega)]; exact h3 j hj i hi
  · rw [hc 45 (by omega) (by omega)]; exact h4
  · rw [hc 45 (by omega) (by omega)]; exact h5
  · rw [hc 48 (by omega) (by omega)]; exact h6 k hk
  · rw [hc 49 (by omega) (by omega)]; exact h7 n hn
/-! booleans as ints -/
def fp_b (p : Prop) [Decidable p] : Int32 := if p then 1 else 0
theorem fp_b_t {p : Prop} [Decidable p] (h : p) : fp_b p = 1 := if_pos h
theorem fp_b_f {p : Prop} [Decidable p] (h : ¬ p) : fp_b p = 0 := if_neg h
theorem fp_b_0 {p : Prop} [Decidable p] : (fp_b p = 0) ↔ ¬ p := by
  unfold fp_b
  by_cases h : p
  · rw [if_pos h]; exact ⟨fun q => absurd q (by decide), fun q => absurd h q⟩
  · rw [if_neg h]; exact ⟨fun _ => h, fun _ => rfl⟩
theorem fp_b_01 {p : Prop} [Decidable p] : fp_b p = 0 ∨ fp_b p = 1 := by
  unfold fp_b
  by_cases h : p
  · rw [if_pos h]; exact Or.inr rfl
  · rw [if_neg h]; exact Or.inl rfl
/-- a number in a range is a natural one -/
theorem fp_nat {t : Int32} {k : Nat} (h0 : 0 ≤ t.toInt) (h1 : t.toInt < k) (hk : k < 2 ^ 31) : ∃ n, n < k ∧ t = nI n := by
  refine ⟨t.toInt.toNat, by omega, ?_⟩
  apply Int32.toInt_inj.mp
  rw [nI_toInt (by omega)]
  omega
theorem fp_w (x : Int32) : x.toInt64.toInt = x.toInt := by simp
