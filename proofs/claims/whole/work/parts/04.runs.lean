/-! WHAT A METHOD GIVES: pm_ev by a number of steps, pm_res its limit; equations of pm_res by pm_xb, which walks a stretch of code at once. -/
def pm_cod (mi : Nat) : List (Nat × pm_E) := pm_cd.getD mi []
def pm_dds (mi : Nat) : List (Nat × List Nat) := pm_dd.getD mi []
def pm_row (mi : Nat) : pm_Rw := pm_mt.getD mi (⟨"", "", ""⟩, ⟨#[]⟩, 0, none, 0, 0, 0, 0, 0)
def pm_ml (mi : Nat) : Nat := (pm_row mi).2.2.1
def pm_ms (o : Option (List Nat)) (ls : pm_V) : pm_V := match o with
  | some ds => pm_mk ds ls
  | none => ls
def pm_go (rec : Nat → Nat → pm_V → List Value → pm_M → Option pm_R) (mi pc : Nat) (ls : pm_V) (stk : List Value) (M : pm_M) : Option pm_R := match pm_lk (pm_cod mi) pc with
  | none => none
  | some E => pm_ex (fun b vs M1 => rec b 0 (pm_ent 0 vs) [] M1) (fun pc1 ls1 st1 M1 => rec mi pc1 (pm_ms (pm_lk (pm_dds mi) pc1) ls1) st1 M1) E pc ls stk M
def pm_ev : Nat → Nat → Nat → pm_V → List Value → pm_M → Option pm_R
  | 0, _, _, _, _, _ => none
  | n + 1, mi, pc, ls, stk, M => pm_go (pm_ev n) mi pc ls stk M
theorem pm_sw_nat {β γ : Type} (x : Int32) (k : Nat → Option β) (f : β → Option γ) (pc : Nat) (d : Int) : ∀ (os : List Int) (lo : Int), pm_sw x (fun q => (k q).bind f) pc d lo os = (pm_sw x k pc d lo os).bind f
  | [], _ => rfl
  | o :: os, lo => by
    unfold pm_sw
    split
    · rfl
    · exact pm_sw_nat x k f pc d os (lo + 1)
theorem pm_nz_nat {β γ : Type} (z : Bool) (x : Option β) (f : β → Option γ) : pm_nz z (x.bind f) = (pm_nz z x).bind f := by cases z <;> rfl
theorem pm_st_nat {β : Type} (E : pm_E) (pc : Nat) (ls : pm_V) (stk : List Value) (M : pm_M) (k : Nat → pm_V → List Value → pm_M → Option β) : pm_st E pc ls stk M k = (pm_st E pc ls stk M (fun a b c d => some (a, b, c, d))).bind (fun q => k q.1 q.2.1 q.2.2.1 q.2.2.2) := by
  obtain ⟨ins, len, a, b, v, pl⟩ := E
  cases ins
  case tableswitch dflt lo hi offs =>
    unfold pm_st
    dsimp only
    split
    · rename_i x st
      rw [← pm_sw_nat]
      rfl
    · rfl
  all_goals
    unfold pm_st
    dsimp only
    repeat' (first | rfl | (rw [Option.bind_assoc]; rfl) | (rw [← pm_nz_nat]; rfl) | (rw [← pm_nz_nat, Option.bind_assoc]; rfl) | split)
theorem pm_ca_cont {rc : Nat → List Value → pm_M → Option pm_R} {k : List Value → pm_M → Option pm_R} {rcn : Nat → Nat → List Value → pm_M → Option pm_R} {kn : Nat → List Value → pm_M → Option pm_R}
    (hrc : ∀ b vs M r, rc b vs M = some r → ∃ n, ∀ m, n ≤ m → rcn m b vs M = some r) (hk : ∀ st M r, k st M = some r → ∃ n, ∀ m, n ≤ m → kn m st M = some r)
    {ok : List Value → Bool} {b ml n rt : Nat} {stk : List Value} {M : pm_M} {r : pm_R} (h : pm_ca rc k ok b ml n rt stk M = some r) : ∃ n0, ∀ m, n0 ≤ m → pm_ca (rcn m) (kn m) ok b ml n rt stk M = some r := by
  unfold pm_ca at h ⊢
  cases hc : (Nat.ble n stk.length && (Nat.ble (pm_cs (stk.drop n)) 8 && (Nat.ble (pm_cs (stk.take n)) ml && ok (stk.take n).reverse))) with
  | false => rw [hc] at h; cases h
  | true =>
    rw [hc] at h
    simp only [cond_true] at h ⊢
    cases hr : rc b (stk.take n).reverse M with
    | none => rw [hr] at h; split at h <;> cases h
    | some q =>
      rw [hr] at h
      obtain ⟨n1, h1⟩ := hrc _ _ _ _ hr
      obtain ⟨v, M1⟩ := q
      split at h
      all_goals
        cases v <;> first | (cases h; done) | skip
        obtain ⟨n2, h2⟩ := hk _ _ _ h
        refine ⟨n1 + n2, fun m hm => ?_⟩
        rw [h1 m (by omega)]
        exact h2 m (by omega)
theorem pm_ex_cont {rc : Nat → List Value → pm_M → Option pm_R} {k : Nat → pm_V → List Value → pm_M → Option pm_R} {rcn : Nat → Nat → List Value → pm_M → Option pm_R} {kn : Nat → Nat → pm_V → List Value → pm_M → Option pm_R}
    (hrc : ∀ b vs M r, rc b vs M = some r → ∃ n, ∀ m, n ≤ m → rcn m b vs M = some r) (hk : ∀ pc ls st M r, k pc ls st M = some r → ∃ n, ∀ m, n ≤ m → kn m pc ls st M = some r)
    {E : pm_E} {pc : Nat} {ls : pm_V} {stk : List Value} {M : pm_M} {r : pm_R} (h : pm_ex rc k E pc ls stk M = some r) : ∃ n0, ∀ m, n0 ≤ m → pm_ex (rcn m) (kn m) E pc ls stk M = some r := by
  have hst : ∀ E : pm_E, pm_st E pc ls stk M k = some r → ∃ n0, ∀ m, n0 ≤ m → pm_st E pc ls stk M (kn m) = some r := by
    intro E hE
    rw [pm_st_nat] at hE
    cases hq : pm_st E pc ls stk M (fun a b c d => some (a, b, c, d)) with
    | none => rw [hq] at hE; cases hE
    | some q =>
      rw [hq] at hE
      obtain ⟨n, hn⟩ := hk _ _ _ _ _ hE
      refine ⟨n, fun m hm => ?_⟩
      rw [pm_st_nat, hq]
      exact hn m hm
  obtain ⟨ins, len, a, b, v, pl⟩ := E
  cases ins
  case invokevirtual i =>
    unfold pm_ex at h ⊢
    dsimp only at h ⊢
    exact pm_ca_cont hrc (fun st M1 r h => hk _ _ _ _ _ h) h
  case invokestatic i =>
    unfold pm_ex at h ⊢
    dsimp only at h ⊢
    cases hb : Nat.ble 7 (a / 10) with
    | true => rw [hb] at h; simp only [cond_true] at h ⊢; exact hst _ h
    | false => rw [hb] at h; simp only [cond_false] at h ⊢; exact pm_ca_cont hrc (fun st M1 r h => hk _ _ _ _ _ h) h
  case invokespecial i =>
    unfold pm_ex at h ⊢
    dsimp only at h ⊢
    cases hb : Nat.beq (a / 10) 6 with
    | true => rw [hb] at h; simp only [cond_true] at h ⊢; exact hst _ h
    | false => rw [hb] at h; simp only [cond_false] at h ⊢; exact pm_ca_cont hrc (fun st M1 r h => hk _ _ _ _ _ h) h
  case ireturn => exact ⟨0, fun _ _ => h⟩
  case lreturn => exact ⟨0, fun _ _ => h⟩
  case areturn => exact ⟨0, fun _ _ => h⟩
  case return_ => exact ⟨0, fun _ _ => h⟩
  all_goals
    unfold pm_ex at h ⊢
    dsimp only at h ⊢
    exact hst _ h
theorem pm_go_cont {rec : Nat → Nat → pm_V → List Value → pm_M → Option pm_R} {recn : Nat → Nat → Nat → pm_V → List Value → pm_M → Option pm_R}
    (hr : ∀ mi pc ls st M r, rec mi pc ls st M = some r → ∃ n, ∀ m, n ≤ m → recn m mi pc ls st M = some r) {mi pc : Nat} {ls : pm_V} {stk : List Value} {M : pm_M} {r : pm_R} (h : pm_go rec mi pc ls stk M = some r) : ∃ n0, ∀ m, n0 ≤ m → pm_go (recn m) mi pc ls stk M = some r := by
  unfold pm_go at h ⊢
  cases hE : pm_lk (pm_cod mi) pc with
  | none => rw [hE] at h; cases h
  | some E =>
    rw [hE] at h
    exact pm_ex_cont (rcn := fun m b vs M1 => recn m b 0 (pm_ent 0 vs) [] M1) (kn := fun m pc1 ls1 st1 M1 => recn m mi pc1 (pm_ms (pm_lk (pm_dds mi) pc1) ls1) st1 M1) (fun b vs M r h => hr _ _ _ _ _ _ h) (fun pc ls st M r h => hr _ _ _ _ _ _ h) h
theorem pm_ev_succ : ∀ (n : Nat) {mi pc : Nat} {ls : pm_V} {stk : List Value} {M : pm_M} {r : pm_R}, pm_ev n mi pc ls stk M = some r → pm_ev (n + 1) mi pc ls stk M = some r
  | 0, _, _, _, _, _, _, h => by cases h
  | n + 1, mi, pc, ls, stk, M, r, h => by
    obtain ⟨n0, h0⟩ := pm_go_cont (rec := pm_ev n) (recn := fun _ => pm_ev (n + 1)) (fun _ _ _ _ _ _ h => ⟨0, fun _ _ => pm_ev_succ n h⟩) h
    exact h0 n0 (Nat.le_refl _)
theorem pm_ev_le {n m : Nat} (hm : n ≤ m) {mi pc : Nat} {ls : pm_V} {stk : List Value} {M : pm_M} {r : pm_R} (h : pm_ev n mi pc ls stk M = some r) : pm_ev m mi pc ls stk M = some r := by
  induction hm with
  | refl => exact h
  | step _ ih => exact pm_ev_succ _ ih
/-- what the run comes to, if it comes to an end -/
noncomputable def pm_res (mi pc : Nat) (ls : pm_V) (stk : List Value) (M : pm_M) : Option pm_R := by
  classical
  exact if h : ∃ n, (pm_ev n mi pc ls stk M).isSome = true then pm_ev (Classical.choose h) mi pc ls stk M else none
theorem pm_res_iff {mi pc : Nat} {ls : pm_V} {stk : List Value} {M : pm_M} {r : pm_R} : pm_res mi pc ls stk M = some r ↔ ∃ n, pm_ev n mi pc ls stk M = some r := by
  unfold pm_res
  constructor
  · intro h
    split at h
    · exact ⟨_, h⟩
    · cases h
  · rintro ⟨n, h⟩
    have hx : ∃ n, (pm_ev n mi pc ls stk M).isSome = true := ⟨n, by rw [h]; rfl⟩
    rw [dif_pos hx]
    have h2 := Classical.choose_spec hx
    obtain ⟨r2, h3⟩ := Option.isSome_iff_exists.mp h2
    rw [h3]
    rcases Nat.le_total n (Classical.choose hx) with hl | hl
    · rw [← h3]; exact pm_ev_le hl h
    · rw [← h]; exact (pm_ev_le hl h3).symm
theorem pm_res_fix (mi pc : Nat) (ls : pm_V) (stk : List Value) (M : pm_M) : pm_res mi pc ls stk M = pm_go pm_res mi pc ls stk M := by
  apply Option.ext
  intro r
  constructor
  · intro h
    obtain ⟨n, hn⟩ := pm_res_iff.mp h
    cases n with
    | zero => cases hn
    | succ n =>
      obtain ⟨n0, h0⟩ := pm_go_cont (rec := pm_ev n) (recn := fun _ => pm_res) (fun _ _ _ _ _ _ h => ⟨0, fun _ _ => pm_res_iff.mpr ⟨n, h⟩⟩) hn
      exact h0 n0 (Nat.le_refl _)
  · intro h
    obtain ⟨n0, h0⟩ := pm_go_cont (rec := pm_res) (recn := pm_ev) (fun _ _ _ _ _ _ h => by
      obtain ⟨n, hn⟩ := pm_res_iff.mp h
      exact ⟨n, fun m hm => pm_ev_le hm hn⟩) h
    exact pm_res_iff.mpr ⟨n0 + 1, h0 n0 (Nat.le_refl _)⟩
/-- a call -/
noncomputable def pm_C (b : Nat) (vs : List Value) (M : pm_M) : Option pm_R := pm_res b 0 (pm_ent 0 vs) [] M
def pm_xb (rc : Nat → List Value → pm_M → Option pm_R) (res : Nat → pm_V → List Value → pm_M → Option pm_R) (C : List (Nat × pm_E)) (D : List (Nat × List Nat)) : Nat → Nat → pm_V → List Value → pm_M → Option pm_R
  | 0, pc, ls, stk, M => res pc ls stk M
  | n + 1, pc, ls, stk, M => match pm_lk C pc with
    | none => none
    | some E => pm_ex rc (fun pc1 ls1 st1 M1 => match pm_lk D pc1 with
      | some ds => res pc1 (pm_mk ds ls1) st1 M1
      | none => pm_xb rc res C D n pc1 ls1 st1 M1) E pc ls stk M
theorem pm_xeq (mi : Nat) (C : List (Nat × pm_E)) (D : List (Nat × List Nat)) (hC : pm_cod mi = C) (hD : pm_dds mi = D) : ∀ (n pc : Nat) (ls : pm_V) (stk : List Value) (M : pm_M), pm_res mi pc ls stk M = pm_xb pm_C (pm_res mi) C D n pc ls stk M
  | 0, _, _, _, _ => rfl
  | n + 1, pc, ls, stk, M => by
    rw [pm_res_fix]
    unfold pm_go pm_xb
    rw [hC, hD]
    cases pm_lk C pc with
    | none => rfl
    | some E =>
      dsimp only
      congr 1
      funext pc1 ls1 st1 M1
      cases pm_lk D pc1 with
      | none => exact pm_xeq mi C D hC hD n pc1 ls1 st1 M1
      | some ds => rfl
theorem pm_xeqC (mi : Nat) (C : List (Nat × pm_E)) (D : List (Nat × List Nat)) (hC : pm_cod mi = C) (hD : pm_dds mi = D) (n : Nat) (vs : List Value) (M : pm_M) : pm_C mi vs M = pm_xb pm_C (pm_res mi) C D n 0 (pm_ent 0 vs) [] M := pm_xeq mi C D hC hD n 0 _ [] M
