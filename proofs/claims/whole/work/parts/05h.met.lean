/-! THE CONTRACT of every method, by induction on the number of steps. -/
def pm_ro (b z : Nat) (v : Value) : Option Value := match v with
  | .null => none
  | w => some (pm_cv b z w)
/-- at a return -/
def pm_re (mi : Nat) (v : Value) (pc1 : Nat) : Prop :=
  (∃ x, v = .int x ∧ decode (pm_by mi) pc1 = .ok (.ireturn, 1) ∧ (pm_rt mi = some .int ∨ (pm_rt mi = some .boolean ∧ (x = 0 ∨ x = 1)))) ∨ (∃ x, v = .long x ∧ decode (pm_by mi) pc1 = .ok (.lreturn, 1) ∧ pm_rt mi = some .long) ∨
  (∃ x, v = .ref x ∧ decode (pm_by mi) pc1 = .ok (.areturn, 1) ∧ pm_isR (pm_rt mi) = true) ∨ (v = .null ∧ decode (pm_by mi) pc1 = .ok (.return_, 1) ∧ pm_rt mi = none)
def pm_Pc (b z L : Nat) (xs : Nat → Int32) (D : va_G) (ids : pm_Id) (M : pm_M) (vs : List Value) : Array Value → State → Prop :=
  va_Pc (vs.map (pm_cv b z)) (fun U => va_P D pm_cl (pm_ws b z ids M) U.heap ∧ U.heap.size + 1 = z + M.1.length ∧ va_K D pm_cl (pm_tys ids) U ∧ va_X b L xs U U.heap ∧ ∀ w ∈ lw_tbl, pm_nst w = true → va_Nw w U)
def pm_Qc (b z : Nat) (D : va_G) (ids : pm_Id) (M1 : pm_M) (v : Value) : Array Value → State → Outcome → State → Prop :=
  fun _ st o t => o = .returned (pm_ro b z v) ∧ va_P D pm_cl (pm_ws b z ids M1) t.heap ∧ t.heap.size + 1 = z + M1.1.length ∧ va_F (pm_A z) st t
/-- what is said of a run of n steps -/
def pm_Snd (l : Launch) (n : Nat) : Prop := ∀ {mi pc : Nat} {ls : pm_V} {stk : List Value} {M M1 : pm_M} {v : Value}, pm_ev n mi pc ls stk M = some (v, M1) → mi < 208 →
  ∀ {p : Program} {e : Env} {R : Room} {s : State} {m : MethodId} {args : Array Value} {below : List Frame} {meth : Method} {c : Code} {Q : State → Prop} {H : Heap} {locs : List Loc} {arr : Array Slot} {b z L n0 t0 : Nat} {xs : Nat → Int32} {D : va_G} {ids : pm_Id},
  pm_Cx p R s m args meth c mi b z L n0 xs D ids → pm_In b z L xs D ids M s H locs → pm_HL b z arr (pm_ml mi) ls → n0 ≤ M.1.length → t0 ≤ pm_tot M → M1.1.length - n0 ≤ R.cells → pm_tot M1 - t0 ≤ R.slots →
  (∀ (pc1 : Nat) (H1 : Heap) (locs1 : List Loc) (arr1 : Array Slot), pm_In b z L xs D ids M1 s H1 locs1 → pm_re mi v pc1 → W p l e R s m args below meth c H1 locs1 (M1.1.length - n0) (pm_tot M1 - t0) Q (F0 m pc1 arr1 ((pm_pu v []).map (pm_cv b z)))) →
  W p l e R s m args below meth c H locs (M.1.length - n0) (pm_tot M - t0) Q (F0 m pc arr (stk.map (pm_cv b z)))
def pm_gw : List Cond := lw_tbl.filter goodWord
def pm_wm (mi : Nat) : List Cond := Cond.code (pm_y mi) (pm_by mi) (pm_ml mi) (pm_rt mi) :: pm_gw
def pm_rm (mi : Nat) (M M1 : pm_M) : Room := { frames := pm_fr mi, cells := M1.1.length - M.1.length, slots := pm_tot M1 - pm_tot M, locals := pm_lo mi }
theorem pm_split {α : Type} (stk : List α) (n : Nat) : stk = (stk.take n).reverse.reverse ++ stk.drop n := by rw [List.reverse_reverse, List.take_append_drop]
theorem pm_ao_obj : lw_tbl.all (fun w => match w with
    | .arrayOver (.object _) => true
    | .arrayOver _ => false
    | _ => true) = true := by decide +kernel
theorem pm_nst_cases {w : Cond} (hw : w ∈ lw_tbl) (h : pm_nst w = true) : (∃ a i x y, w = .methodLinkNest a i x y) ∨ ∃ C, w = .arrayOver (.object C) := by
  have h1 := List.all_eq_true.mp pm_ao_obj w hw
  unfold pm_nst at h
  split at h
  · exact Or.inl ⟨_, _, _, _, rfl⟩
  · split at h1
    · rename_i e; cases e; exact Or.inr ⟨_, rfl⟩
    · cases h1
    · rename_i q1 q2; exact absurd rfl (q2 _)
  · cases h
theorem pm_nst_use {w : Cond} (hw : w ∈ lw_tbl) (h : pm_nst w = true) {U : State} {A : Array Value} (hz : va_Nw w U) : w.before A U = true := by
  rcases pm_nst_cases hw h with ⟨a, i, x, y, rfl⟩ | ⟨C, rfl⟩
  · exact va_Nw.use rfl hz
  · exact va_AO.use hz
theorem pm_nst_of {w : Cond} (hw : w ∈ lw_tbl) (h : pm_nst w = true) {U : State} {A : Array Value} (hz : w.before A U = true) : va_Nw w U := by
  rcases pm_nst_cases hw h with ⟨a, i, x, y, rfl⟩ | ⟨C, rfl⟩
  · exact va_Nw.of rfl hz
  · exact va_AO.of hz
theorem pm_nst_same {w : Cond} (hw : w ∈ lw_tbl) (h : pm_nst w = true) {s U : State} (hW : s.vm = U.vm) (hz : va_Nw w s) : va_Nw w U := by
  rcases pm_nst_cases hw h with ⟨a, i, x, y, rfl⟩ | ⟨C, rfl⟩
  · exact va_Nw.same rfl hW hz
  · exact va_AO.moved (by rw [hW]; exact Vm.Alike.refl _) hz
theorem pm_nst_warm {w : Cond} (hw : w ∈ lw_tbl) (h : pm_nst w = true) {s U : State} (hW : s.WarmedH U.vm) (hz : va_Nw w s) : va_Nw w U := by
  rcases pm_nst_cases hw h with ⟨a, i, x, y, rfl⟩ | ⟨C, rfl⟩
  · exact va_Nw.warmM hW hz
  · exact va_AO.moved hW.alike hz
theorem pm_blind {b z L : Nat} {xs : Nat → Int32} {D : va_G} {ids : pm_Id} {M : pm_M} {vs : List Value} : FrameBlind (pm_Pc b z L xs D ids M vs) := by
  intro a U g mk q
  obtain ⟨q0, qP, qs, qK, qX, qN⟩ := q
  exact ⟨q0, qP, qs, va_K.moved (u := U) (U := U.calling g mk a) (Vm.Alike.refl U.vm) qK, va_X.moved (u := U) (U := U.calling g mk a) (Vm.Alike.refl U.vm) qX, fun w hw h => pm_nst_same (s := U) (U := U.calling g mk a) hw h rfl (qN w hw h)⟩
theorem pm_met {l : Launch} {n : Nat} (IH : pm_Snd l n) {b1 : Nat} {vs : List Value} {M M1 : pm_M} {v1 : Value} (hev : pm_ev n b1 0 (pm_ent 0 vs) [] M = some (v1, M1)) (hb1 : b1 < 207) (hcs : pm_cs vs ≤ pm_ml b1) {b z L : Nat} {xs : Nat → Int32} {D : va_G} {ids : pm_Id}
    (hbz : b < z) (hM0 : M.1[0]? = some (8, L)) (hMx : M.2.2.1 0 = xs) : Met l (pm_y b1) (pm_wm b1) (pm_rm b1 M M1) (pm_Pc b z L xs D ids M vs) (pm_Qc b z D ids M1 v1) (M1.1.length - M.1.length) (pm_tot M1 - pm_tot M) (pm_A z) := by
  have hw := pm_okW hb1
  unfold pm_okw at hw
  simp only [Bool.and_eq_true] at hw
  obtain ⟨⟨⟨⟨⟨⟨w1, w2⟩, w3⟩, w4⟩, w5⟩, w6⟩, w7⟩ := hw
  have hlen : 1 ≤ M.1.length := (List.getElem?_eq_some_iff.mp hM0).1
  refine Met.ofW (cc := pm_by b1) (maxL := pm_ml b1) (ret := pm_rt b1) w1 rfl ?_
  intro p e s m args below meth c s₁ B hml hv
  obtain ⟨rfl, hP, hsz, hK, hX, hN⟩ := hv
  have hx := B.exec
  have hbb := B.bytes
  have hr := B.returns
  have hts0 := atoms_spec (ws := pm_wm b1) B.pre
  have hown : s.vm.findClass (pm_y b1).cls = some m.cls := findClass_of_methodNamed B.named
  have hlocks := B.notSynchronized
  have hnm : meth.name = (pm_y b1).name := (name_of_methodNamed B.named B.method).1
  have hts : ∀ w ∈ lw_tbl, pm_need w = true → w.before (vs.map (pm_cv b z)).toArray s = true := by
    intro w hw hn
    unfold pm_need at hn
    rw [Bool.or_eq_true] at hn
    rcases hn with hn | hn
    · exact hts0 w (List.mem_cons_of_mem _ (List.mem_filter.mpr ⟨hw, hn⟩))
    · exact pm_nst_use hw hn (hN w hw hn)
  rw [lg_entry_eq]
  have hHL := pm_HL_ent (b := b) (z := z) hcs
  have hgo := IH hev (by omega) (p := p) (e := e) (R := pm_rm b1 M M1) (s := s) (m := m) (args := (vs.map (pm_cv b z)).toArray) (below := below) (meth := meth) (c := c) (Q := MQ below (pm_Qc b z D ids M1 v1) (vs.map (pm_cv b z)).toArray s (M1.1.length - M.1.length) (pm_tot M1 - pm_tot M) (pm_A z)) (H := s.heap) (locs := []) (b := b) (z := z) (L := L) (n0 := M.1.length) (t0 := pm_tot M) (xs := xs) (D := D) (ids := ids)
    ⟨hx, hbb, hml, hr, hlocks, hown, hts, (fun q => by rw [q] at w6; rw [if_pos rfl, Bool.and_eq_true, decide_eq_true_eq] at w6; rw [hnm]; exact w6.1), hK, hX, hbz, hsz, Nat.le_refl _, Nat.le_refl _, hlen⟩ ⟨hP, hsz, va_S.rf, hM0, hMx⟩ hHL (Nat.le_refl _) (Nat.le_refl _) (Nat.le_refl _) (Nat.le_refl _) ?_
  · rw [Nat.sub_self, Nat.sub_self] at hgo
    exact hgo
  · intro pc1 H1 locs1 arr1 hI hre
    obtain ⟨hP1, hsz1, hS1, -, -⟩ := hI
    have hq : ∀ (o : Outcome), o = .returned (pm_ro b z v1) → ∀ t : State, t.heap = H1 → s.WarmedH t.vm → pm_Qc b z D ids M1 v1 (vs.map (pm_cv b z)).toArray s o t := by
      intro o ho t ht hW
      exact ⟨ho, by rw [ht]; exact hP1, by rw [ht]; exact hsz1, hS1.F ht⟩
    rcases hre with ⟨x, rfl, hd, hrt⟩ | ⟨x, rfl, hd, hrt⟩ | ⟨x, rfl, hd, hrt⟩ | ⟨rfl, hd, hrt⟩
    · rcases hrt with hrt | ⟨hrt, h01⟩
      · exact W.iret hx hbb (hr.trans hrt) (hq _ rfl) hS1.2.2 hd
      · exact W.zret hx hbb (hr.trans hrt) (by rcases h01 with rfl | rfl <;> rfl) (hq _ rfl) hS1.2.2 hd
    · exact W.lret hx hbb (hr.trans hrt) (hq _ rfl) hS1.2.2 hd
    · have hex : ∃ rt, pm_rt b1 = some rt ∧ ((∃ n, rt = .object n) ∨ ∃ t, rt = .array t) := by
        unfold pm_isR at hrt
        split at hrt
        · rename_i n e2; exact ⟨_, e2, Or.inl ⟨_, rfl⟩⟩
        · rename_i n e2; exact ⟨_, e2, Or.inr ⟨_, rfl⟩⟩
        · cases hrt
      obtain ⟨rt, h1, h2⟩ := hex
      exact W.aret hx hbb (hr.trans h1) h2 (Or.inr ⟨_, rfl⟩) (hq _ rfl) hS1.2.2 hd
    · exact W.vret hx hbb (hr.trans hrt) (hq _ rfl) hS1.2.2 hd
