/-! THE CLAIM OUT OF ONE WALK OF THE LAW'S BODY. Your part is whole_start (and what it stands on); all else here is the same for every law, but numbers. -/
def R_law : String := "FarPairsLaw"
def lw_P (b : Addr) (xs : List Int32) (args : Array Value) (s : State) : Prop := args = #[.ref b] ∧ s.IntsAt b xs ∧ xs.length ≤ 2560 ∧ (Jvm.Cond.and given_1 narrow_1).before args s = true
def lw_Q (_ : Array Value) (s : State) (o : Outcome) (t : State) : Prop := o = .returned (some (.int 1)) ∧ Framed s o t [] 600000 7302250
def lw_Z (below : List Frame) (a : Array Value) (s : State) : State → Prop := fun t => ∃ o, t.status = .running ∧ Ended t below o ∧ lw_Q a s o t
/-- the law's own end, with 1 on the stack, nothing written that was there before, its room as the claim has it -/
theorem lw_ret {p : Program} {l : Launch} {e : Env} {s : State} {m : MethodId} {below : List Frame} {meth : Method} {c : Code} {b : Nat} (hx : p.tables.exec = Jvm.exec) (hb : c.code = code) (hr : meth.sig.returnType = ret) (hlocks : meth.locks = false) {pc : Nat} {H : Heap} {ls : Array Slot} (hdg : decode code pc = .ok (.ireturn, 1)) : W p l e room_1 s m #[Value.ref b] below meth c H [] 600000 7302250 (lw_Z below #[Value.ref b] s) (F0 m pc ls [.int 1]) := by
  intro T hT X
  obtain ⟨fs, hret, hrun, hended, hW, hframe⟩ := X.leave (v := some (.int 1)) (hlocks := hlocks) (fun h => by rw [hr] at h; cases h)
  have hmeth' : T.vm.method? m = some meth := X.method'
  refine ⟨T.setFrames fs, ?_, .returned (some (.int 1)), hrun, hended, rfl, ⟨_, rfl⟩, hW, hframe⟩
  jvm_step X.here [X.here.top, hx, hb, hdg, hmeth', hr, ret, narrow_b1]
  (try refine ⟨rfl, ?_⟩); (try refine ⟨rfl, ?_⟩)
  first | (intro acts; rw [hret _ acts rfl rfl rfl]) | rw [hret _ _ rfl rfl rfl]
  exact Steps.refl _
/-- what holds at the law's entry: the machine, the code, the tables' words (any of lw_tbl by 'hts w (by decide +kernel)'), the script of L ints xs at the cell b, what the Statement gives of the start (any of its parts by flat_of_before) -/
def lw_At (p : Program) (s : State) (m : MethodId) (meth : Method) (c : Code) (b L : Nat) (xs : Nat → Int32) : Prop :=
  p.tables.exec = Jvm.exec ∧ c.code = code ∧ meth.sig.returnType = ret ∧ c.maxLocals = 4 ∧ s.vm.findClass R_law = some m.cls ∧ (∀ w ∈ lw_tbl, w.before #[Value.ref b] s = true) ∧ va_X b L xs s s.heap ∧ b < s.heap.size ∧ meth.locks = false ∧ (Jvm.Cond.and given_1 narrow_1).before #[Value.ref b] s = true
/-- the pure machine's start: the script alone -/
def pm_M0 (L : Nat) (xs : Nat → Int32) : pm_M := ([(8, L)], fun _ _ => none, fun i j => if i = 0 then xs j else 0, fun _ _ => 0)
def pm_LawOk : Prop := ∀ (L : Nat) (xs : Nat → Int32), L ≤ 2560 → ∃ M1 : pm_M, pm_C mL_law [.ref 0] (pm_M0 L xs) = some (.int 1, M1) ∧ M1.1.length ≤ 600000 ∧ pm_tot M1 ≤ 7302250 + L
theorem pm_known {s : State} {args : Array Value} (hts : ∀ w ∈ lw_tbl, w.before args s = true) : ∃ (D : va_G) (ids : pm_Id), va_K D pm_cl (pm_tys ids) s := by
  have h1 : ∀ c : Nat, ∃ d : ClassId × (Nat → Nat), ∀ q : vw_C, pm_cl[c]? = some q → u_Kn s q.1 q.2.1 q.2.2 d.1 d.2 := by
    intro c
    cases hc : pm_cl[c]? with
    | none => exact ⟨(0, fun _ => 0), fun q h => by cases h⟩
    | some q =>
      obtain ⟨C, T, N⟩ := q
      obtain ⟨cC, iS, h⟩ := u_known hts (pm_clw hc) (hts _ (pm_inst hc).1)
      exact ⟨(cC, iS), fun q hq => by cases hq; exact h⟩
  obtain ⟨f, hf⟩ := Classical.axiomOfChoice h1
  obtain ⟨c1, k1, cm1, a1, a2, a3⟩ := Cond.arrayClass_spec (hts _ pm_arrI.1)
  obtain ⟨c2, k2, cm2, b1, b2, b3⟩ := Cond.arrayClass_spec (hts _ pm_arrL.1)
  obtain ⟨comp, c3, k3, d1, d2, d3, d4, d5⟩ := Cond.arrayOver_spec (hts _ pm_arrO.1)
  refine ⟨(fun c => (f c).1, fun c => (f c).2), (c1, c2, c3), fun c q hq => hf c q hq, fun k q hk => ?_⟩
  have hk3 : k < 3 := (List.getElem?_eq_some_iff.mp hk).1
  rcases (by omega : k = 0 ∨ k = 1 ∨ k = 2) with rfl | rfl | rfl
  · cases hk
    exact ⟨fun n z => ⟨(fun k h => by cases h), k1, a2, cm1, a3⟩, a1⟩
  · cases hk
    exact ⟨fun n z => ⟨(fun k h => by cases h), k2, b2, cm2, b3⟩, b1⟩
  · cases hk
    exact ⟨fun n z => ⟨(fun k h => by cases h), k3, d3, comp, d4⟩, k3, comp, d3, d4, d1, d5⟩
theorem whole_open (hok : pm_LawOk) {p : Program} {e : Env} {s : State} {m : MethodId} {below : List Frame} {meth : Method} {c : Code} (l : Launch) {b L : Nat} {xs : Nat → Int32} (hL : L ≤ 2560) (C0 : lw_At p s m meth c b L xs) : W p l e room_1 s m #[Value.ref b] below meth c s.heap [] 0 0 (lw_Z below #[Value.ref b] s) (entryFrame m ([Value.ref b] : List Value).toArray 4) := by
  obtain ⟨hx, hb, hr, hml, hown, hts, hX, hbs, hlk, -⟩ := C0
  obtain ⟨D, ids, hK⟩ := pm_known hts
  obtain ⟨M1, hrun, hn1, hn2⟩ := hok L xs hL
  obtain ⟨n, hev⟩ := pm_res_iff.mp hrun
  have hHL := pm_HL_ent (b := b) (z := s.heap.size) (nL := 4) (vs := [.ref 0]) (by decide)
  rw [lg_entry_eq]
  have hgo := pm_sound l n hev (by decide) (p := p) (e := e) (R := room_1) (s := s) (m := m) (args := #[Value.ref b]) (below := below) (meth := meth) (c := c) (Q := lw_Z below #[Value.ref b] s) (H := s.heap) (locs := []) (b := b) (z := s.heap.size) (L := L) (n0 := 1) (t0 := L) (xs := xs) (D := D) (ids := ids)
    ⟨hx, hb, hml, hr, hlk, hown, fun w hw _ => hts w hw, (fun q => by cases q), hK, hX, hbs, rfl, by decide, by decide, Nat.le_refl _⟩
    ⟨(fun k q hk => by cases hk), rfl, va_S.rf, rfl, rfl⟩ hHL (Nat.le_refl _) (by show L ≤ ([L] : List Nat).sum; simp) (by show M1.1.length - 1 ≤ 600000; omega) (by show pm_tot M1 - L ≤ 7302250; omega) ?_
  · have e1 : (pm_M0 L xs).1.length - 1 = 0 := rfl
    have e2 : pm_tot (pm_M0 L xs) - L = 0 := by show ([L] : List Nat).sum - L = 0; simp
    rw [e1, e2] at hgo
    exact hgo
  · intro pc1 H1 locs1 arr1 hI hre
    obtain ⟨-, -, hS, -, -⟩ := hI
    refine va_forget (fun q hq => hS.2.2 q hq) ?_
    refine W.widen (k := 600000) (n := 7302250) (by omega) (by omega) ?_
    rcases hre with ⟨x, hx1, hd, -⟩ | ⟨x, hx1, -⟩ | ⟨x, hx1, -⟩ | ⟨hx1, -⟩
    · cases hx1
      exact lw_ret hx hb hr hlk hd
    · cases hx1
    · cases hx1
    · cases hx1
