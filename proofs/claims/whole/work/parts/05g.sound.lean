/-! A WHOLE RUN of the pure machine is one of the machine. -/
theorem pm_bd {α β : Type} {o : Option α} {f : α → Option β} {r : β} (h : o.bind f = some r) : ∃ x, o = some x ∧ f x = some r := Option.bind_eq_some_iff.mp h
def pm_pu (v : Value) (st : List Value) : List Value := match v with
  | .null => st
  | w => w :: st
def pm_vk (rt : Nat) (v : Value) : Prop := match rt with
  | 0 => v = .null
  | 1 => ∃ x, v = .int x
  | 2 => ∃ x, v = .long x
  | _ => ∃ x, v = .ref x
theorem pm_ca_inv {rc : Nat → List Value → pm_M → Option pm_R} {k : List Value → pm_M → Option pm_R} {ok : List Value → Bool} {b ml n rt : Nat} {stk : List Value} {M : pm_M} {r : pm_R} (h : pm_ca rc k ok b ml n rt stk M = some r) :
    n ≤ stk.length ∧ pm_cs (stk.drop n) ≤ 8 ∧ ok (stk.take n).reverse = true ∧ pm_cs (stk.take n) ≤ ml ∧ ∃ (v1 : Value) (M1 : pm_M), rc b (stk.take n).reverse M = some (v1, M1) ∧ pm_vk rt v1 ∧ k (pm_pu v1 (stk.drop n)) M1 = some r := by
  unfold pm_ca at h
  cases hc : (Nat.ble n stk.length && (Nat.ble (pm_cs (stk.drop n)) 8 && (Nat.ble (pm_cs (stk.take n)) ml && ok (stk.take n).reverse))) with
  | false => rw [hc] at h; cases h
  | true =>
    rw [hc] at h
    simp only [Bool.and_eq_true] at hc
    obtain ⟨h1, h2, h4, h3⟩ := hc
    refine ⟨Nat.le_of_ble_eq_true h1, Nat.le_of_ble_eq_true h2, h3, Nat.le_of_ble_eq_true h4, ?_⟩
    simp only [cond_true] at h
    rcases rt with _ | _ | _ | rt
    all_goals
      obtain ⟨q, hq, h⟩ := pm_bd h
      obtain ⟨⟨v1, M1⟩, hr, hq⟩ := pm_bd hq
      cases v1 <;> first | (cases hq; done) | skip
      cases hq
      exact ⟨_, _, hr, by first | exact rfl | exact ⟨_, rfl⟩, h⟩
/-- what an instruction is: a return, a step, a call -/
theorem pm_ex_inv {rc : Nat → List Value → pm_M → Option pm_R} {k : Nat → pm_V → List Value → pm_M → Option pm_R} {ins : Instr} {len a b : Nat} {v : Int} {pl pc : Nat} {ls : pm_V} {stk : List Value} {M : pm_M} {r : pm_R} (h : pm_ex rc k (ins, len, a, b, v, pl) pc ls stk M = some r) :
    ((ins = .ireturn ∧ ∃ x, stk = [.int x] ∧ r = (.int x, M) ∧ (v = 1 → x = 0 ∨ x = 1)) ∨ (ins = .lreturn ∧ ∃ x, stk = [.long x] ∧ r = (.long x, M)) ∨ (ins = .areturn ∧ ∃ x, stk = [.ref x] ∧ r = (.ref x, M)) ∨ (ins = .return_ ∧ stk = [] ∧ r = (.null, M))) ∨
    (∃ pc1 ls1 st1 M1, pm_st (ins, len, a, b, v, pl) pc ls stk M (fun a b c d => some (a, b, c, d)) = some (pc1, ls1, st1, M1) ∧ k pc1 ls1 st1 M1 = some r) ∨
    (∃ (kd idx : Nat) (ok : List Value → Bool), ((kd = 1 ∧ ins = .invokevirtual idx ∧ ok = pm_rc M (v.toNat % 10000 / 100)) ∨ (kd = 0 ∧ ins = .invokestatic idx ∧ ¬ 7 ≤ a / 10) ∨ (kd = 2 ∧ ins = .invokespecial idx ∧ a / 10 ≠ 6 ∧ ok = pm_rc M (v.toNat % 10000 / 100))) ∧ pm_ca rc (fun st M1 => k (pc + len) ls st M1) ok b (v.toNat / 10000) (v.toNat % 100) (a % 10) stk M = some r) := by
  have hst : pm_st (ins, len, a, b, v, pl) pc ls stk M k = some r → ∃ pc1 ls1 st1 M1, pm_st (ins, len, a, b, v, pl) pc ls stk M (fun a b c d => some (a, b, c, d)) = some (pc1, ls1, st1, M1) ∧ k pc1 ls1 st1 M1 = some r := by
    intro hE
    rw [pm_st_nat] at hE
    obtain ⟨⟨pc1, ls1, st1, M1⟩, h1, h2⟩ := pm_bd hE
    exact ⟨pc1, ls1, st1, M1, h1, h2⟩
  cases ins
  case invokevirtual i =>
    unfold pm_ex at h
    exact Or.inr (Or.inr ⟨1, i, _, Or.inl ⟨rfl, rfl, rfl⟩, h⟩)
  case invokestatic i =>
    unfold pm_ex at h
    dsimp only at h
    cases hb : Nat.ble 7 (a / 10) with
    | true => rw [hb] at h; exact Or.inr (Or.inl (hst h))
    | false =>
      rw [hb] at h
      exact Or.inr (Or.inr ⟨0, i, fun _ => true, Or.inr (Or.inl ⟨rfl, rfl, fun q => by rw [Nat.ble_eq_true_of_le q] at hb; cases hb⟩), h⟩)
  case invokespecial i =>
    unfold pm_ex at h
    dsimp only at h
    cases hb : Nat.beq (a / 10) 6 with
    | true => rw [hb] at h; exact Or.inr (Or.inl (hst h))
    | false =>
      rw [hb] at h
      exact Or.inr (Or.inr ⟨2, i, _, Or.inr (Or.inr ⟨rfl, rfl, (fun q => by rw [q] at hb; cases hb), rfl⟩), h⟩)
  case ireturn =>
    unfold pm_ex at h
    dsimp only at h
    split at h
    · rename_i x
      refine Or.inl (Or.inl ⟨rfl, x, rfl, ?_⟩)
      by_cases hv : v = 1
      · rw [if_pos hv] at h
        by_cases hx : x = 0 ∨ x = 1
        · rw [if_pos hx] at h; cases h; exact ⟨rfl, fun _ => hx⟩
        · rw [if_neg hx] at h; cases h
      · rw [if_neg hv] at h; cases h; exact ⟨rfl, fun q => absurd q hv⟩
    · cases h
  case lreturn =>
    unfold pm_ex at h
    dsimp only at h
    split at h
    · rename_i x; cases h; exact Or.inl (Or.inr (Or.inl ⟨rfl, x, rfl, rfl⟩))
    · cases h
  case areturn =>
    unfold pm_ex at h
    dsimp only at h
    split at h
    · rename_i x; cases h; exact Or.inl (Or.inr (Or.inr (Or.inl ⟨rfl, x, rfl, rfl⟩)))
    · cases h
  case return_ =>
    unfold pm_ex at h
    dsimp only at h
    split at h
    · cases h; exact Or.inl (Or.inr (Or.inr (Or.inr ⟨rfl, rfl, rfl⟩)))
    · cases h
  all_goals
    unfold pm_ex at h
    exact Or.inr (Or.inl (hst h))
theorem pm_st_grow {E : pm_E} {pc pc1 : Nat} {ls ls1 : pm_V} {stk st1 : List Value} {M M1 : pm_M} (h : pm_st E pc ls stk M (fun a b c d => some (a, b, c, d)) = some (pc1, ls1, st1, M1)) : M.1 <+: M1.1 := by
  obtain ⟨ins, len, a, bb, v, pl⟩ := E
  cases ins
  case tableswitch dflt lo hi offs =>
    simp only [pm_st] at h
    split at h
    · rcases pm_sw_spec _ _ h with ⟨j, off, q1, q2, q3⟩ | ⟨q1, q3⟩ <;> cases q3 <;> exact List.prefix_rfl
    · cases h
  case new idx => cases h; exact List.prefix_append _ _
  case newarray t =>
    simp only [pm_st] at h
    split at h
    · split at h
      · cases h
      · cases h; exact List.prefix_append _ _
    · cases h
  case anewarray t =>
    simp only [pm_st] at h
    split at h
    · split at h
      · cases h
      · cases h; exact List.prefix_append _ _
    · cases h
  case putfield idx =>
    simp only [pm_st] at h
    split at h
    · split at h
      · obtain ⟨M2, h1, h2⟩ := pm_bd h
        cases h2
        unfold pm_pI at h1
        cases hk : pm_kd M a _ <;> rw [hk] at h1 <;> cases h1
        exact List.prefix_rfl
      · cases h
    · split at h
      · obtain ⟨M2, h1, h2⟩ := pm_bd h
        cases h2
        unfold pm_pL at h1
        cases hk : pm_kd M a _ <;> rw [hk] at h1 <;> cases h1
        exact List.prefix_rfl
      · cases h
    · split at h
      · obtain ⟨M2, h1, h2⟩ := pm_bd h
        cases h2
        unfold pm_pR at h1
        cases hk : pm_kd M a _ <;> rw [hk] at h1 <;> cases h1
        exact List.prefix_rfl
      · cases h
    · cases h
  case iastore =>
    simp only [pm_st] at h
    split at h
    · obtain ⟨M2, h1, h2⟩ := pm_bd h
      cases h2
      unfold pm_sI at h1
      cases hk : Nat.beq _ 0 <;> rw [hk] at h1
      · obtain ⟨n, h3, h4⟩ := pm_bd h1
        split at h4
        · cases h4
        · cases h4; exact List.prefix_rfl
      · cases h1
    · cases h
  case lastore =>
    simp only [pm_st] at h
    split at h
    · obtain ⟨M2, h1, h2⟩ := pm_bd h
      cases h2
      unfold pm_sL at h1
      obtain ⟨n, h3, h4⟩ := pm_bd h1
      split at h4
      · cases h4
      · cases h4; exact List.prefix_rfl
    · cases h
  case aastore =>
    simp only [pm_st] at h
    split at h
    · obtain ⟨M2, h1, h2⟩ := pm_bd h
      cases h2
      unfold pm_sR at h1
      cases hk : pm_kd M 5 _ <;> rw [hk] at h1
      · cases h1
      · obtain ⟨n, h3, h4⟩ := pm_bd h1
        split at h4
        · cases h4
        · cases h4; exact List.prefix_rfl
    · cases h
  case invokestatic idx =>
    simp only [pm_st] at h
    split at h
    · rename_i y x st
      cases hz9 : (Nat.beq (a / 10) 8 && Nat.ble (pm_cs st) 8) <;> rw [hz9] at h <;> cases h
      exact List.prefix_rfl
    · rename_i y x st
      cases hz9 : (Nat.beq (a / 10) 8 && Nat.ble (pm_cs st) 8) <;> rw [hz9] at h <;> cases h
      exact List.prefix_rfl
    · rename_i x st
      cases hz9 : (Nat.beq (a / 10) 8 && Nat.ble (pm_cs st) 8) <;> rw [hz9] at h <;> cases h
      exact List.prefix_rfl
    · rename_i y x st
      cases hz9 : (Nat.beq (a / 10) 8 && Nat.ble (pm_cs st) 8) <;> rw [hz9] at h <;> cases h
      exact List.prefix_rfl
    · rename_i n dp d sp s0 st
      cases hz9 : (Nat.beq (a / 10) 7 && Nat.ble (pm_cs st) 8) <;> rw [hz9] at h
      · cases h
      · simp only [Bool.not_true, pm_nz] at h
        obtain ⟨M2, h1, h2⟩ := pm_bd h
        cases h2
        unfold pm_cp at h1
        cases hz8 : (Nat.beq d 0 || Nat.beq s0 0) <;> rw [hz8] at h1
        · obtain ⟨n0, h3, h4⟩ := pm_bd h1
          obtain ⟨n1, h5, h6⟩ := pm_bd h4
          split at h6
          · cases h6
          · cases h6; exact List.prefix_rfl
        · cases h1
    · cases h
  all_goals
    simp only [pm_st] at h
    first
    | (cases h; exact List.prefix_rfl)
    | skip
  all_goals
    repeat' (first | (cases h; exact List.prefix_rfl) | (cases h; done) | (obtain ⟨x9, q9, h⟩ := pm_bd h; cases h; exact List.prefix_rfl) | split at h)
  all_goals
    rename_i y x st
    first
    | (cases hz : decide (y = 0) <;> rw [hz] at h <;> cases h <;> exact List.prefix_rfl)
    | (cases hz : (Nat.beq (a / 10) 6 && Nat.ble (pm_cs st) 8) <;> rw [hz] at h <;> cases h <;> exact List.prefix_rfl)
theorem pm_ev_grow : ∀ (n : Nat) {mi pc : Nat} {ls : pm_V} {stk : List Value} {M M1 : pm_M} {v : Value}, pm_ev n mi pc ls stk M = some (v, M1) → M.1 <+: M1.1
  | 0, _, _, _, _, _, _, _, h => by cases h
  | n + 1, mi, pc, ls, stk, M, M1, v, h => by
    have h : pm_go (pm_ev n) mi pc ls stk M = some (v, M1) := h
    unfold pm_go at h
    split at h
    · cases h
    · rename_i E hE
      obtain ⟨ins, len, a, bb, vv, pl⟩ := E
      rcases pm_ex_inv h with h | ⟨pc1, ls1, st1, M2, h1, h2⟩ | ⟨kd, idx, ok, -, h⟩
      · rcases h with ⟨-, x, -, h, -⟩ | ⟨-, x, -, h⟩ | ⟨-, x, -, h⟩ | ⟨-, -, h⟩ <;> cases h <;> exact List.prefix_rfl
      · exact (pm_st_grow h1).trans (pm_ev_grow n h2)
      · obtain ⟨-, -, -, -, v1, M2, h1, -, h2⟩ := pm_ca_inv h
        exact (pm_ev_grow n h1).trans (pm_ev_grow n h2)
theorem pm_pre_len {a b : List (Nat × Nat)} (h : a <+: b) : a.length ≤ b.length := h.length_le
theorem pm_pre_tot {M M1 : pm_M} (h : M.1 <+: M1.1) : pm_tot M ≤ pm_tot M1 := by
  obtain ⟨t, ht⟩ := h
  unfold pm_tot
  rw [← ht, List.map_append, List.sum_append]
  omega
