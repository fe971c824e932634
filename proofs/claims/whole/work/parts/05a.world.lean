/-! THE PURE MACHINE'S CELLS IN THE HEAP: cell 0 is the script at b, cell j + 1 lies at z + j. -/
def pm_ad (b z : Nat) : Nat → Nat
  | 0 => b
  | j + 1 => z + j
def pm_cv (b z : Nat) (v : Value) : Value := match v with
  | .ref i => .ref (pm_ad b z i)
  | w => w
theorem pm_cv_cat (b z : Nat) (v : Value) : (pm_cv b z v).category = v.category := by cases v <;> rfl
def pm_fv (b z : Nat) (M : pm_M) (i k t : Nat) : Value := match t with
  | 0 => .int (M.2.2.1 i k)
  | 1 => .long (M.2.2.2 i k)
  | _ => va_rf ((M.2.1 i k).map (pm_ad b z))
def pm_fs (b z : Nat) (M : pm_M) (ci i : Nat) : List Value := (List.range (pm_ft ci).length).map (fun k => pm_fv b z M i k ((pm_ft ci).getD k 0))
abbrev pm_Id : Type := ClassId × ClassId × ClassId
def pm_tys (ids : pm_Id) : List (ClassId × FieldType) := [(ids.1, .int), (ids.2.1, .long), (ids.2.2, .object RX5)]
def pm_ce (b z : Nat) (ids : pm_Id) (M : pm_M) (i : Nat) (q : Nat × Nat) : va_E :=
  if q.1 < 8 then .inr (q.1, pm_fs b z M q.1 i)
  else if q.1 = 8 then .inl (ids.1, q.2, .inl (M.2.2.1 i))
  else if q.1 = 9 then .inl (ids.2.1, q.2, .inr (.inl (M.2.2.2 i)))
  else .inl (ids.2.2, q.2, .inr (.inr (.inr (.inr (fun j => (M.2.1 i j).map (pm_ad b z))))))
def pm_ws (b z : Nat) (ids : pm_Id) (M : pm_M) : va_W := (List.range (M.1.length - 1)).map (fun j => (z + j, pm_ce b z ids M (j + 1) (M.1.getD (j + 1) (0, 0))))
def pm_A (z : Nat) : Nat → Prop := fun q => z ≤ q
def pm_tot (M : pm_M) : Nat := (M.1.map Prod.snd).sum
theorem pm_ws_len (b z : Nat) (ids : pm_Id) (M : pm_M) : (pm_ws b z ids M).length = M.1.length - 1 := by simp [pm_ws]
theorem pm_ws_get {b z : Nat} {ids : pm_Id} {M : pm_M} {j : Nat} (hj : j < M.1.length - 1) : (pm_ws b z ids M)[j]? = some (z + j, pm_ce b z ids M (j + 1) (M.1.getD (j + 1) (0, 0))) := by
  simp only [pm_ws, List.getElem?_map, List.getElem?_range hj, Option.map_some]
theorem pm_ws_at {b z : Nat} {ids : pm_Id} {M : pm_M} {r : Nat} {q : Nat × Nat} (h : M.1[r]? = some q) (hr : r ≠ 0) : (pm_ws b z ids M)[r - 1]? = some (pm_ad b z r, pm_ce b z ids M r q) := by
  obtain ⟨j, rfl⟩ := Nat.exists_eq_succ_of_ne_zero hr
  have hl := (List.getElem?_eq_some_iff.mp h).1
  rw [Nat.succ_sub_one, pm_ws_get (by omega)]
  have e : M.1.getD (j + 1) (0, 0) = q := by
    rw [List.getD_eq_getElem?_getD, h]; rfl
  rw [e]
  rfl
theorem pm_ws_D (b z : Nat) (ids : pm_Id) (M : pm_M) : va_D (pm_A z) (pm_ws b z ids M) := by
  have key : ∀ (j : Nat) (p : Nat × va_E), (pm_ws b z ids M)[j]? = some p → p.1 = z + j := by
    intro j p h
    have hj := (List.getElem?_eq_some_iff.mp h).1
    rw [pm_ws_len] at hj
    rw [pm_ws_get hj] at h
    cases h
    rfl
  refine ⟨fun i j p q hi hj hpq => ?_, fun k q hk => ?_⟩
  · have h1 := key i p hi
    have h2 := key j q hj
    omega
  · have h1 := key k q hk
    show z ≤ q.1
    omega
theorem pm_ws_set {b z : Nat} {ids : pm_Id} {M M1 : pm_M} {r : Nat} {q : Nat × Nat} (h : M.1[r]? = some q) (hr : r ≠ 0) (hs : M1.1 = M.1) (ho : ∀ i, i ≠ r → ∀ q, pm_ce b z ids M1 i q = pm_ce b z ids M i q) : pm_ws b z ids M1 = (pm_ws b z ids M).set (r - 1) (pm_ad b z r, pm_ce b z ids M1 r q) := by
  have h1 : M1.1[r]? = some q := by rw [hs]; exact h
  apply List.ext_getElem?
  intro j
  by_cases hj : j < M.1.length - 1
  · by_cases e : j = r - 1
    · subst e
      rw [List.getElem?_set_self (by rw [pm_ws_len]; exact hj), pm_ws_at h1 hr]
    · rw [List.getElem?_set_ne (Ne.symm e), pm_ws_get (by rw [hs]; exact hj), pm_ws_get hj, hs, ho (j + 1) (by omega)]
  · rw [List.getElem?_eq_none (by rw [pm_ws_len, hs]; omega), List.getElem?_eq_none (by rw [List.length_set, pm_ws_len]; omega)]
theorem pm_ws_push {b z : Nat} {ids : pm_Id} {M M1 : pm_M} {q : Nat × Nat} (hn : 1 ≤ M.1.length) (hs : M1.1 = M.1 ++ [q]) (ho : ∀ i, i ≠ M.1.length → ∀ q, pm_ce b z ids M1 i q = pm_ce b z ids M i q) : pm_ws b z ids M1 = pm_ws b z ids M ++ [(z + (M.1.length - 1), pm_ce b z ids M1 M.1.length q)] := by
  have hl : M1.1.length = M.1.length + 1 := by rw [hs]; simp
  apply List.ext_getElem?
  intro j
  by_cases hj : j < M.1.length - 1
  · rw [List.getElem?_append_left (by rw [pm_ws_len]; exact hj), pm_ws_get (by omega), pm_ws_get hj, ho (j + 1) (by omega), hs, List.getD_eq_getElem?_getD, List.getD_eq_getElem?_getD, List.getElem?_append_left (by omega)]
  · by_cases e : j = M.1.length - 1
    · subst e
      rw [List.getElem?_append_right (by rw [pm_ws_len]; omega), pm_ws_len, Nat.sub_self, pm_ws_get (by omega)]
      have e1 : M.1.length - 1 + 1 = M.1.length := by omega
      rw [e1, hs, List.getD_eq_getElem?_getD, List.getElem?_append_right (Nat.le_refl _), Nat.sub_self]
      rfl
    · rw [List.getElem?_eq_none (by rw [pm_ws_len]; omega), List.getElem?_eq_none (by rw [List.length_append, pm_ws_len]; simp; omega)]
theorem pm_kd_iff {M : pm_M} {ci r : Nat} : pm_kd M ci r = true ↔ ∃ n, M.1[r]? = some (ci, n) := by
  unfold pm_kd
  constructor
  · intro h
    split at h
    · rename_i c n e
      rw [e, Nat.eq_of_beq_eq_true h]
      exact ⟨n, rfl⟩
    · cases h
  · rintro ⟨n, e⟩
    rw [e]
    exact Nat.beq_refl ci
theorem pm_ln_iff {M : pm_M} {kd r n : Nat} : pm_ln M kd r = some n ↔ M.1[r]? = some (kd, n) := by
  unfold pm_ln
  constructor
  · intro h
    split at h
    · rename_i c n' e
      cases hb : Nat.beq c kd with
      | false => rw [hb] at h; cases h
      | true =>
        rw [hb] at h
        cases h
        rw [e, Nat.eq_of_beq_eq_true hb]
    · cases h
  · intro e
    rw [e]
    show (bif Nat.beq kd kd then some n else none) = some n
    rw [Nat.beq_refl]
    rfl
theorem pm_fs_get {b z : Nat} {M : pm_M} {ci i k : Nat} (hk : k < (pm_ft ci).length) : (pm_fs b z M ci i)[k]? = some (pm_fv b z M i k ((pm_ft ci).getD k 0)) := by
  simp only [pm_fs, List.getElem?_map, List.getElem?_range hk, Option.map_some]
theorem pm_fs_set {b z : Nat} {M M1 : pm_M} {ci i k : Nat} {v : Value} (hk : k < (pm_ft ci).length) (hv : pm_fv b z M1 i k ((pm_ft ci).getD k 0) = v) (ho : ∀ j, j ≠ k → ∀ t, pm_fv b z M1 i j t = pm_fv b z M i j t) : pm_fs b z M1 ci i = (pm_fs b z M ci i).set k v := by
  apply List.ext_getElem?
  intro j
  by_cases hj : j < (pm_ft ci).length
  · by_cases e : j = k
    · subst e
      rw [List.getElem?_set_self (by simp [pm_fs]; exact hj), pm_fs_get hj, hv]
    · rw [List.getElem?_set_ne (Ne.symm e), pm_fs_get hj, pm_fs_get hj, ho j e]
  · rw [List.getElem?_eq_none (by simp [pm_fs]; omega), List.getElem?_eq_none (by simp [pm_fs]; omega)]
theorem pm_up_same {α : Type} (f : Nat → α) (k : Nat) (v : α) : va_up f k v k = v := by simp [va_up]
theorem pm_up_other {α : Type} (f : Nat → α) {k j : Nat} (v : α) (h : j ≠ k) : va_up f k v j = f j := by simp [va_up, h]
/-- cells that read the same maps are the same -/
theorem pm_ce_cong {b z : Nat} {ids : pm_Id} {M M1 : pm_M} {i : Nat} (hR : M1.2.1 i = M.2.1 i) (hI : M1.2.2.1 i = M.2.2.1 i) (hL : M1.2.2.2 i = M.2.2.2 i) (q : Nat × Nat) : pm_ce b z ids M1 i q = pm_ce b z ids M i q := by
  have e : pm_fs b z M1 q.1 i = pm_fs b z M q.1 i := by
    unfold pm_fs
    congr 1
    funext k
    unfold pm_fv
    rw [hR, hI, hL]
  unfold pm_ce
  rw [e, hI, hL, hR]
def pm_HL (b z : Nat) (arr : Array Slot) (nL : Nat) (ls : pm_V) : Prop := arr.size = nL ∧ lv_wf arr ∧ ∀ j v, pm_ll ls j = some v → arr[j]? = some (.val (pm_cv b z v))
theorem pm_ll_mem : ∀ {ls : pm_V} {j : Nat} {v : Value}, pm_ll ls j = some v → (j, v) ∈ ls
  | [], _, _, h => by cases h
  | (i, w) :: t, j, v, h => by
    unfold pm_ll at h
    cases hb : Nat.beq i j with
    | true =>
      rw [hb] at h
      cases h
      rw [Nat.eq_of_beq_eq_true hb]
      exact List.mem_cons_self
    | false =>
      rw [hb] at h
      simp only [cond_false] at h
      split at h
      · rename_i w' e
        cases hc : ((Nat.beq (j + 1) i && pm_c2 w') || (Nat.beq (i + 1) j && pm_c2 w)) with
        | true => rw [hc] at h; cases h
        | false => rw [hc] at h; cases h; exact List.mem_cons_of_mem _ (pm_ll_mem e)
      · cases h
theorem pm_ll_cons {ls : pm_V} {i j : Nat} {v w : Value} (h : pm_ll ((i, v) :: ls) j = some w) : (j = i ∧ w = v) ∨ (j ≠ i ∧ pm_ll ls j = some w ∧ ¬ (j + 1 = i ∧ w.category = 2) ∧ ¬ (i + 1 = j ∧ v.category = 2)) := by
  unfold pm_ll at h
  cases hb : Nat.beq i j with
  | true =>
    rw [hb] at h
    cases h
    exact Or.inl ⟨(Nat.eq_of_beq_eq_true hb).symm, rfl⟩
  | false =>
    rw [hb] at h
    simp only [cond_false] at h
    split at h
    · rename_i w' e
      cases hc : ((Nat.beq (j + 1) i && pm_c2 w') || (Nat.beq (i + 1) j && pm_c2 v)) with
      | true => rw [hc] at h; cases h
      | false =>
        rw [hc] at h
        cases h
        rw [Bool.or_eq_false_iff, Bool.and_eq_false_iff, Bool.and_eq_false_iff] at hc
        refine Or.inr ⟨fun q => ?_, e, fun q => ?_, fun q => ?_⟩
        · rw [q, Nat.beq_refl] at hb; cases hb
        · rcases hc.1 with z | z
          · rw [q.1, Nat.beq_refl] at z; cases z
          · unfold pm_c2 at z; rw [q.2] at z; cases z
        · rcases hc.2 with z | z
          · rw [q.1, Nat.beq_refl] at z; cases z
          · unfold pm_c2 at z; rw [q.2] at z; cases z
    · cases h
/-- the listed locals, in the kit's form -/
def pm_lv (b z : Nat) (ls : pm_V) : List (Nat × Value) := ls.filterMap (fun q => (pm_ll ls q.1).map (fun v => (q.1, pm_cv b z v)))
theorem pm_lv_has {b z : Nat} {arr : Array Slot} {nL : Nat} {ls : pm_V} (h : pm_HL b z arr nL ls) : lv_has arr nL (pm_lv b z ls) := by
  refine ⟨h.1, h.2.1, fun q hq => ?_⟩
  obtain ⟨e, -, he⟩ := List.mem_filterMap.mp hq
  cases hv : pm_ll ls e.1 with
  | none => rw [hv] at he; cases he
  | some v => rw [hv] at he; cases he; exact h.2.2 _ _ hv
theorem pm_lv_mem {b z : Nat} {ls : pm_V} {j : Nat} {v : Value} (h : pm_ll ls j = some v) : (j, pm_cv b z v) ∈ pm_lv b z ls := List.mem_filterMap.mpr ⟨(j, v), pm_ll_mem h, by simp [h]⟩
theorem pm_HL_1 {b z : Nat} {arr : Array Slot} {nL i : Nat} {ls : pm_V} {v : Value} (h : lv_has arr nL ((i, pm_cv b z v) :: (pm_lv b z ls).filter (fun q => !(q.1 == i) && !(q.1 + 1 == i && q.2.category == 2)))) : pm_HL b z arr nL ((i, v) :: ls) := by
  refine ⟨h.1, h.2.1, fun j w hj => ?_⟩
  rcases pm_ll_cons hj with ⟨rfl, rfl⟩ | ⟨h1, h2, h3, -⟩
  · exact h.2.2 (j, _) List.mem_cons_self
  · refine h.2.2 (j, _) (List.mem_cons_of_mem _ (List.mem_filter.mpr ⟨pm_lv_mem h2, ?_⟩))
    simp only [Bool.and_eq_true, Bool.not_eq_true', beq_eq_false_iff_ne, ne_eq, Bool.and_eq_false_iff, pm_cv_cat]
    refine ⟨h1, ?_⟩
    by_cases e : j + 1 = i
    · exact Or.inr (fun q => h3 ⟨e, (pm_cv_cat b z w).symm.trans q⟩)
    · exact Or.inl e
theorem pm_HL_2 {b z : Nat} {arr : Array Slot} {nL i : Nat} {ls : pm_V} {v : Value} (hv : v.category = 2) (h : lv_has arr nL ((i, pm_cv b z v) :: (pm_lv b z ls).filter (fun q => !(q.1 == i) && (!(q.1 == i + 1) && !(q.1 + 1 == i && q.2.category == 2))))) : pm_HL b z arr nL ((i, v) :: ls) := by
  refine ⟨h.1, h.2.1, fun j w hj => ?_⟩
  rcases pm_ll_cons hj with ⟨rfl, rfl⟩ | ⟨h1, h2, h3, h4⟩
  · exact h.2.2 (j, _) List.mem_cons_self
  · refine h.2.2 (j, _) (List.mem_cons_of_mem _ (List.mem_filter.mpr ⟨pm_lv_mem h2, ?_⟩))
    simp only [Bool.and_eq_true, Bool.not_eq_true', beq_eq_false_iff_ne, ne_eq, Bool.and_eq_false_iff, pm_cv_cat]
    refine ⟨h1, fun q => h4 ⟨q.symm, hv⟩, ?_⟩
    by_cases e : j + 1 = i
    · exact Or.inr (fun q => h3 ⟨e, (pm_cv_cat b z w).symm.trans q⟩)
    · exact Or.inl e
theorem pm_ll_mk {ls : pm_V} : ∀ {ds : List Nat} {j : Nat} {v : Value}, pm_ll (pm_mk ds ls) j = some v → pm_ll ls j = some v := by
  intro ds
  have key : ∀ (ds : List Nat) (q : Nat × Value), q ∈ pm_mk ds ls → pm_ll ls q.1 = some q.2 := by
    intro ds
    induction ds with
    | nil => intro q h; cases h
    | cons i t ih =>
      intro q h
      unfold pm_mk at h
      split at h
      · rename_i v e
        rcases List.mem_cons.mp h with rfl | h
        · exact e
        · exact ih q h
      · exact ih q h
  intro j v h
  exact key ds (j, v) (pm_ll_mem h)
theorem pm_HL_ms {b z : Nat} {arr : Array Slot} {nL : Nat} {ls : pm_V} (o : Option (List Nat)) (h : pm_HL b z arr nL ls) : pm_HL b z arr nL (pm_ms o ls) := by
  cases o with
  | none => exact h
  | some ds => exact ⟨h.1, h.2.1, fun j v hj => h.2.2 j v (pm_ll_mk hj)⟩
theorem pm_ent_args (b z : Nat) : ∀ (vs : List Value) (i : Nat), (pm_ent i vs).map (fun q => (q.1, pm_cv b z q.2)) = lv_args i (vs.map (pm_cv b z))
  | [], _ => rfl
  | v :: vs, i => by
    simp only [pm_ent, List.map_cons, lv_args, pm_cv_cat]
    rw [pm_ent_args b z vs]
    congr 1
    unfold pm_c2
    by_cases h : v.category = 2
    · rw [if_pos h, h]; rfl
    · rw [if_neg h]
      have : Nat.beq v.category 2 = false := by
        cases hb : Nat.beq v.category 2 with
        | false => rfl
        | true => exact absurd (Nat.eq_of_beq_eq_true hb) h
      rw [this]; rfl
theorem pm_sl_len (b z : Nat) : ∀ (vs : List Value), (lg_sl (vs.map (pm_cv b z))).length = pm_cs vs
  | [] => rfl
  | v :: vs => by
    have ih := pm_sl_len b z vs
    unfold lg_sl pm_cs at *
    simp only [List.map_cons, List.flatMap_cons, List.length_append, List.sum_cons, pm_cv_cat, ih]
    congr 1
    rcases lv_cat v with h | h
    · rw [h]; rfl
    · rw [h]; rfl
theorem pm_HL_ent {b z nL : Nat} {vs : List Value} (h : pm_cs vs ≤ nL) : pm_HL b z ((lg_sl (vs.map (pm_cv b z)) ++ List.replicate (nL - (lg_sl (vs.map (pm_cv b z))).length) Slot.unset).toArray) nL (pm_ent 0 vs) := by
  have h1 := lv_entry (vs.map (pm_cv b z)) (n := nL) (by rw [pm_sl_len]; exact h)
  refine ⟨h1.1, h1.2.1, fun j v hj => ?_⟩
  refine h1.2.2 (j, pm_cv b z v) ?_
  rw [← pm_ent_args]
  exact List.mem_map.mpr ⟨(j, v), pm_ll_mem hj, rfl⟩
