/-! ONE INSTRUCTION: what the pure machine does, the machine does. -/
theorem pm_blt {a b : Nat} (h : Nat.blt a b = true) : a < b := Nat.le_of_ble_eq_true h
theorem pm_jp_spec {pc : Nat} {off : Int} (h : pm_jp pc off = true) : (pc : Int) + off = ((pm_tg pc off : Nat) : Int) := by
  have h1 : 0 ≤ (pc : Int) + off := by simpa [pm_jp] using h
  exact (Int.toNat_of_nonneg h1).symm
def pm_Cx (p : Program) (R : Room) (s : State) (m : MethodId) (args : Array Value) (meth : Method) (c : Code) (mi b z L n0 : Nat) (xs : Nat → Int32) (D : va_G) (ids : pm_Id) : Prop :=
  p.tables.exec = Jvm.exec ∧ c.code = pm_by mi ∧ c.maxLocals = pm_ml mi ∧ meth.sig.returnType = pm_rt mi ∧ meth.locks = false ∧ s.vm.findClass (pm_y mi).cls = some m.cls ∧ (∀ w ∈ lw_tbl, pm_need w = true → w.before args s = true) ∧ (pm_kn mi = 2 → meth.name = "<init>") ∧ va_K D pm_cl (pm_tys ids) s ∧ va_X b L xs s s.heap ∧ b < z ∧ s.heap.size + 1 = z + n0 ∧ pm_fr mi ≤ R.frames ∧ pm_lo mi ≤ R.locals ∧ 1 ≤ n0
def pm_In (b z L : Nat) (xs : Nat → Int32) (D : va_G) (ids : pm_Id) (M : pm_M) (s : State) (H : Heap) (locs : List Loc) : Prop :=
  va_P D pm_cl (pm_ws b z ids M) H ∧ H.size + 1 = z + M.1.length ∧ va_S (pm_A z) s.heap H locs ∧ M.1[0]? = some (8, L) ∧ M.2.2.1 0 = xs
theorem pm_S_self {A : Nat → Prop} {H0 H : Heap} {locs : List Loc} (h : va_S A H0 H locs) : va_S A H H locs := ⟨Nat.le_refl _, fun _ _ _ => rfl, h.2.2⟩
theorem pm_S_tr {A : Nat → Prop} {H0 H H1 : Heap} {locs locs1 : List Loc} (h1 : va_S A H0 H locs) (h2 : va_S A H H1 locs1) : va_S A H0 H1 locs1 :=
  ⟨Nat.le_trans h1.1 h2.1, fun q a b => (h2.2.1 q (Nat.lt_of_lt_of_le a h1.1) b).trans (h1.2.1 q a b), h2.2.2⟩
theorem pm_sw_spec {ls : pm_V} {st : List Value} {M : pm_M} {x : Int32} {pc : Nat} {d : Int} {r : Nat × pm_V × List Value × pm_M} : ∀ (os : List Int) (lo : Int), pm_sw x (fun q => some (q, ls, st, M)) pc d lo os = some r →
    (∃ (j : Nat) (off : Int), os[j]? = some off ∧ x = Int32.ofInt (lo + j) ∧ r = (pm_tg pc off, ls, st, M)) ∨ ((∀ j : Nat, j < os.length → x ≠ Int32.ofInt (lo + j)) ∧ r = (pm_tg pc d, ls, st, M))
  | [], lo, h => by
    cases h
    exact Or.inr ⟨fun j hj => absurd hj (Nat.not_lt_zero j), rfl⟩
  | o :: os, lo, h => by
    unfold pm_sw at h
    by_cases hx : x = Int32.ofInt lo
    · rw [if_pos hx] at h
      cases h
      exact Or.inl ⟨0, o, rfl, by simpa using hx, rfl⟩
    · rw [if_neg hx] at h
      rcases pm_sw_spec os (lo + 1) h with ⟨j, off, h1, h2, h3⟩ | ⟨h1, h2⟩
      · refine Or.inl ⟨j + 1, off, by simpa using h1, ?_, h3⟩
        rw [h2]
        congr 1
        rw [Int.natCast_add]
        omega
      · refine Or.inr ⟨fun j hj => ?_, h2⟩
        cases j with
        | zero => simpa using hx
        | succ j =>
          have h3 := h1 j (by simpa using hj)
          intro h4
          apply h3
          rw [h4]
          congr 1
          rw [Int.natCast_add]
          omega
theorem pm_cs_cv (b z : Nat) (st : List Value) : ((st.map (pm_cv b z)).map fun v => v.category).sum = pm_cs st := by
  unfold pm_cs
  rw [List.map_map]
  congr 1
  exact List.map_congr_left (fun v _ => pm_cv_cat b z v)
theorem pm_small {k : Int} (h1 : 0 ≤ k) (h2 : k < 1000) : (Int32.ofInt k).toInt = k := by
  rw [Int32.toInt_ofInt]
  have e : ((Int32.size : Nat) : Int) = 4294967296 := rfl
  rw [Int.bmod_def, e]
  omega
section PmStep
variable {p : Program} {l : Launch} {e : Env} {R : Room} {s : State} {m : MethodId} {args : Array Value} {below : List Frame} {meth : Method} {c : Code} {Q : State → Prop} {H : Heap} {locs : List Loc}
theorem pm_sized {cells slots : Nat} {g : JFrame} (k : H.size ≤ s.heap.size + cells → W p l e R s m args below meth c H locs cells slots Q g) : W p l e R s m args below meth c H locs cells slots Q g := by
  intro T hT X
  exact k (by rw [← hT]; exact X.heapSize) T hT X
/-- behind a store: the world is M1's -/
theorem pm_stored {mi b z L n0 t0 : Nat} {xs : Nat → Int32} {D : va_G} {ids : pm_Id} {M M1 : pm_M} {H1 : Heap} {locs1 : List Loc} {g : JFrame} (X : pm_Cx p R s m args meth c mi b z L n0 xs D ids) (I : pm_In b z L xs D ids M s H locs) (hn : n0 ≤ M.1.length) (hs : M1.1 = M.1) (h0 : M1.2.2.1 0 = M.2.2.1 0)
    (hP : va_P D pm_cl (pm_ws b z ids M1) H1) (hS : va_S (pm_A z) H H1 locs1)
    (kk : pm_In b z L xs D ids M1 s H1 locs1 → W p l e R s m args below meth c H1 locs1 (M1.1.length - n0) (pm_tot M1 - t0) Q g) : W p l e R s m args below meth c H1 locs1 (M.1.length - n0) (pm_tot M - t0) Q g := by
  obtain ⟨-, -, -, -, -, -, -, -, -, -, -, hz0, -, -, h1n⟩ := X
  obtain ⟨-, hsz, hS0, hM0, hMx⟩ := I
  have ht : pm_tot M1 = pm_tot M := by unfold pm_tot; rw [hs]
  rw [hs, ht] at kk
  refine pm_sized fun hle => kk ⟨hP, ?_, pm_S_tr hS0 hS, by rw [hs]; exact hM0, h0.trans hMx⟩
  have := hS.1
  rw [hs]
  omega
/-- behind a new cell: it lies at the heap's end -/
theorem pm_made {mi b z L n0 t0 N q pc : Nat} {xs : Nat → Int32} {D : va_G} {ids : pm_Id} {M M1 : pm_M} {H1 : Heap} {E : va_E} {arr : Array Slot} {rest : List Value} (X : pm_Cx p R s m args meth c mi b z L n0 xs D ids) (I : pm_In b z L xs D ids M s H locs) (hn : n0 ≤ M.1.length) (ht : t0 ≤ pm_tot M)
    (k1 : va_P D pm_cl (pm_ws b z ids M ++ [(q, E)]) H1) (k2 : va_D (pm_A z) (pm_ws b z ids M ++ [(q, E)])) (k3 : va_S (pm_A z) H H1 locs) (hq : pm_ws b z ids M1 = pm_ws b z ids M ++ [(z + (M.1.length - 1), E)]) (hl1 : M1.1.length = M.1.length + 1) (ht1 : pm_tot M1 = pm_tot M + N) (hx0 : M1.2.2.1 0 = M.2.2.1 0) (h00 : M1.1[0]? = some (8, L))
    (kk : ∀ (H1 : Heap) (locs1 : List Loc), pm_In b z L xs D ids M1 s H1 locs1 → W p l e R s m args below meth c H1 locs1 (M1.1.length - n0) (pm_tot M1 - t0) Q (F0 m pc arr (.ref (pm_ad b z M.1.length) :: rest))) :
    W p l e R s m args below meth c H1 locs (M.1.length - n0 + 1) (pm_tot M - t0 + N) Q (F0 m pc arr (.ref q :: rest)) := by
  obtain ⟨-, -, -, -, -, -, -, -, -, -, -, hz0, -, -, h1n⟩ := X
  obtain ⟨-, hsz, hS, hM0, hMx⟩ := I
  have hlast : (pm_ws b z ids M ++ [(q, E)])[M.1.length - 1]? = some (q, E) := by
    rw [List.getElem?_append_right (by rw [pm_ws_len]; omega), pm_ws_len, Nat.sub_self]; rfl
  refine pm_sized fun hle => ?_
  have hq1 : q < H1.size := (k1 _ _ hlast).lt
  have hqz : z ≤ q := k2.2 _ _ hlast
  have hne : ∀ j, j < M.1.length - 1 → q ≠ z + j := by
    intro j hj e
    have h1 : (pm_ws b z ids M ++ [(q, E)])[j]? = some (z + j, pm_ce b z ids M (j + 1) (M.1.getD (j + 1) (0, 0))) := by
      rw [List.getElem?_append_left (by rw [pm_ws_len]; exact hj), pm_ws_get hj]
    have := k2.1 j (M.1.length - 1) _ _ h1 hlast e.symm
    omega
  have hqe : q = z + (M.1.length - 1) := by
    rcases Nat.lt_or_ge (q - z) (M.1.length - 1) with h | h
    · exact absurd (by omega) (hne (q - z) h)
    · omega
  subst hqe
  rw [← hq] at k1
  have e1 : pm_ad b z M.1.length = z + (M.1.length - 1) := by
    obtain ⟨j, hj⟩ := Nat.exists_eq_succ_of_ne_zero (n := M.1.length) (by omega)
    rw [hj]; rfl
  have e2 : M.1.length - n0 + 1 = M1.1.length - n0 := by omega
  have e3 : pm_tot M - t0 + N = pm_tot M1 - t0 := by omega
  rw [e2, e3, ← e1]
  have h3 := k3.1
  exact kk H1 locs ⟨k1, by omega, pm_S_tr hS k3, h00, hx0.trans hMx⟩
theorem pm_cls {a : Nat} {C : String} {T : u_T} {N : Nat} (h : pm_cl[a]? = some (C, T, N)) : ∃ ty0 : Nat → FieldType, (∀ k, k < N → parseFieldDescriptor (T k).2.2.1 = some (ty0 k)) ∧ (∀ a, a < N → ∀ b, b < N → a ≠ b → (T a).2.1 ≠ (T b).2.1) ∧ (∀ k, k < N → defaultValue (ty0 k) = (match (pm_ft a).getD k 0 with
    | 0 => .int 0
    | 1 => .long 0
    | _ => .null)) := by
  have ha : a < 8 := (List.getElem?_eq_some_iff.mp h).1
  rcases (by omega : a = 0 ∨ a = 1 ∨ a = 2 ∨ a = 3 ∨ a = 4 ∨ a = 5 ∨ a = 6 ∨ a = 7) with rfl | rfl | rfl | rfl | rfl | rfl | rfl | rfl
  · cases h; exact ⟨tyX0, tyX0_ok, nmX0, by decide +kernel⟩
  · cases h; exact ⟨tyX1, tyX1_ok, nmX1, by decide +kernel⟩
  · cases h; exact ⟨tyX2, tyX2_ok, nmX2, by decide +kernel⟩
  · cases h; exact ⟨tyX3, tyX3_ok, nmX3, by decide +kernel⟩
  · cases h; exact ⟨tyX4, tyX4_ok, nmX4, by decide +kernel⟩
  · cases h; exact ⟨tyX5, tyX5_ok, nmX5, by decide +kernel⟩
  · cases h; exact ⟨tyX6, tyX6_ok, nmX6, by decide +kernel⟩
  · cases h; exact ⟨tyX7, tyX7_ok, nmX7, by decide +kernel⟩
theorem pm_clw {a : Nat} {C : String} {T : u_T} {N : Nat} (h : pm_cl[a]? = some (C, T, N)) : ∀ w ∈ u_ws C T N, w ∈ lw_tbl := by
  intro w hw
  have h1 := List.all_eq_true.mp pm_cl_in _ (List.mem_of_getElem? h)
  have h2 := List.all_eq_true.mp h1 w hw
  simpa using h2
theorem pm_clu {a : Nat} {C : String} {T : u_T} {N : Nat} {w : Cond} (hw : w ∈ u_ws C T N) : pm_need w = true := by
  unfold u_ws at hw
  obtain ⟨k, -, rfl⟩ := List.mem_map.mp hw
  unfold u_lay
  split <;> rfl
def pm_tl : List Cond := lw_tbl.filter pm_need
theorem pm_clt {a : Nat} {C : String} {T : u_T} {N : Nat} (h : pm_cl[a]? = some (C, T, N)) : ∀ w ∈ u_ws C T N, w ∈ pm_tl := fun w hw => List.mem_filter.mpr ⟨pm_clw h w hw, pm_clu (a := a) hw⟩

set_option maxHeartbeats 8000000 in
set_option maxRecDepth 100000 in
theorem pm_step {mi b z L n0 t0 : Nat} {xs : Nat → Int32} {D : va_G} {ids : pm_Id} {M M1 : pm_M} {E : pm_E} {pc pc1 : Nat} {ls ls1 : pm_V} {stk st1 : List Value} {arr : Array Slot}
    (X : pm_Cx p R s m args meth c mi b z L n0 xs D ids) (I : pm_In b z L xs D ids M s H locs) (hl : pm_HL b z arr (pm_ml mi) ls) (hE : pm_chk mi (pc, E) = true) (hn : n0 ≤ M.1.length) (ht : t0 ≤ pm_tot M)
    (h : pm_st E pc ls stk M (fun a b c d => some (a, b, c, d)) = some (pc1, ls1, st1, M1)) (hr1 : M1.1.length - n0 ≤ R.cells) (hr2 : pm_tot M1 - t0 ≤ R.slots)
    (kk : ∀ (H1 : Heap) (locs1 : List Loc) (arr1 : Array Slot), pm_In b z L xs D ids M1 s H1 locs1 → pm_HL b z arr1 (pm_ml mi) ls1 → W p l e R s m args below meth c H1 locs1 (M1.1.length - n0) (pm_tot M1 - t0) Q (F0 m pc1 arr1 (st1.map (pm_cv b z)))) :
    W p l e R s m args below meth c H locs (M.1.length - n0) (pm_tot M - t0) Q (F0 m pc arr (stk.map (pm_cv b z))) := by
  have X0 := X
  have I0 := I
  obtain ⟨hx, hb, hml, hr, hlk, hown, hts, hini, hK, hX, hbz, hz0, hfr, hlo, h1n⟩ := X
  obtain ⟨hP, hsz, hS, hM0, hMx⟩ := I
  have hD := pm_ws_D b z ids M
  have hbs : b < s.heap.size := by omega
  have hts2 : ∀ w ∈ pm_tl, w.before args s = true := fun w hw => hts w (List.mem_filter.mp hw).1 (List.mem_filter.mp hw).2
  have hwd : ∀ {pl : Nat} {w : Cond}, pm_wd pl w = true → w.before args s = true := fun q => hts _ (pm_wd_spec q).1 (pm_wd_spec q).2
  obtain ⟨ins, len, a, bb, v, pl⟩ := E
  have hE2 := Bool.and_eq_true_iff.mp hE
  have hd : decode (pm_by mi) pc = .ok (ins, len) := by
    have q := hE2.1
    unfold pm_dc at q
    split at q
    · rename_i i l e
      rw [Bool.and_eq_true, decide_eq_true_eq] at q
      have q1 : i = ins := q.1
      have q2 : l = len := Nat.eq_of_beq_eq_true q.2
      rw [← q1, ← q2]
      exact e
    · cases q
  have hc : pm_chI mi pc (ins, len, a, bb, v, pl) = true := hE2.2
  clear hE hE2
  cases ins
  case iconst n =>
    obtain rfl := Nat.eq_of_beq_eq_true hc
    cases h
    exact lv_iconst hx hb hd rfl (kk H locs arr I0 hl)
  case lconst n =>
    obtain rfl := Nat.eq_of_beq_eq_true hc
    cases h
    exact lv_lconst hx hb hd rfl (kk H locs arr I0 hl)
  case bipush n =>
    obtain rfl := Nat.eq_of_beq_eq_true hc
    cases h
    exact lv_bipush hx hb hd rfl (kk H locs arr I0 hl)
  case sipush n =>
    obtain rfl := Nat.eq_of_beq_eq_true hc
    cases h
    exact lv_sipush hx hb hd rfl (kk H locs arr I0 hl)
  case ldc idx =>
    have hc := Bool.and_eq_true_iff.mp hc
    obtain rfl := Nat.eq_of_beq_eq_true hc.1
    cases h
    exact lv_ldc hx hb hown (hwd hc.2) hd (kk H locs arr I0 hl)
  case ldc_w idx =>
    have hc := Bool.and_eq_true_iff.mp hc
    obtain rfl := Nat.eq_of_beq_eq_true hc.1
    cases h
    exact lv_ldcw hx hb hown (hwd hc.2) hd (kk H locs arr I0 hl)
  case ldc2_w idx =>
    have hc := Bool.and_eq_true_iff.mp hc
    obtain rfl := Nat.eq_of_beq_eq_true hc.1
    cases h
    exact lv_ldc2 hx hb hown (hwd hc.2) hd (kk H locs arr I0 hl)
  case iload i =>
    obtain rfl := Nat.eq_of_beq_eq_true hc
    simp only [pm_st] at h
    split at h
    · rename_i x q
      cases h
      exact lv_iload hx hb hd (hl.2.2 _ _ q) (kk H locs arr I0 hl)
    · cases h
  case iload_n i =>
    obtain rfl := Nat.eq_of_beq_eq_true hc
    simp only [pm_st] at h
    split at h
    · rename_i x q
      cases h
      exact lv_iload_n hx hb hd rfl (hl.2.2 _ _ q) (kk H locs arr I0 hl)
    · cases h
  case lload i =>
    obtain rfl := Nat.eq_of_beq_eq_true hc
    simp only [pm_st] at h
    split at h
    · rename_i x q
      cases h
      exact lv_lload hx hb hd (hl.2.2 _ _ q) (kk H locs arr I0 hl)
    · cases h
  case lload_n i =>
    obtain rfl := Nat.eq_of_beq_eq_true hc
    simp only [pm_st] at h
    split at h
    · rename_i x q
      cases h
      exact lv_lload_n hx hb hd rfl (hl.2.2 _ _ q) (kk H locs arr I0 hl)
    · cases h
  case aload i =>
    obtain rfl := Nat.eq_of_beq_eq_true hc
    simp only [pm_st] at h
    split at h
    · rename_i x q
      cases h
      exact lv_aload hx hb hd (hl.2.2 _ _ q) (kk H locs arr I0 hl)
    · cases h
  case aload_n i =>
    obtain rfl := Nat.eq_of_beq_eq_true hc
    simp only [pm_st] at h
    split at h
    · rename_i x q
      cases h
      exact lv_aload_n hx hb hd rfl (hl.2.2 _ _ q) (kk H locs arr I0 hl)
    · cases h
  case istore i =>
    have hc := Bool.and_eq_true_iff.mp hc
    obtain rfl := Nat.eq_of_beq_eq_true hc.1
    simp only [pm_st] at h
    split at h
    · cases h
      exact lv_istore hx hb hd (pm_lv_has hl) (pm_blt hc.2) rfl (fun arr1 q => kk H locs arr1 I0 (pm_HL_1 q))
    · cases h
  case istore_n i =>
    have hc := Bool.and_eq_true_iff.mp hc
    obtain rfl := Nat.eq_of_beq_eq_true hc.1
    simp only [pm_st] at h
    split at h
    · cases h
      exact lv_istore_n hx hb hd rfl (pm_lv_has hl) (pm_blt hc.2) rfl (fun arr1 q => kk H locs arr1 I0 (pm_HL_1 q))
    · cases h
  case lstore i =>
    have hc := Bool.and_eq_true_iff.mp hc
    obtain rfl := Nat.eq_of_beq_eq_true hc.1
    simp only [pm_st] at h
    split at h
    · cases h
      exact lv_lstore hx hb hd (pm_lv_has hl) (pm_blt hc.2) rfl (fun arr1 q => kk H locs arr1 I0 (pm_HL_2 rfl q))
    · cases h
  case lstore_n i =>
    have hc := Bool.and_eq_true_iff.mp hc
    obtain rfl := Nat.eq_of_beq_eq_true hc.1
    simp only [pm_st] at h
    split at h
    · cases h
      exact lv_lstore_n hx hb hd rfl (pm_lv_has hl) (pm_blt hc.2) rfl (fun arr1 q => kk H locs arr1 I0 (pm_HL_2 rfl q))
    · cases h
  case astore i =>
    have hc := Bool.and_eq_true_iff.mp hc
    obtain rfl := Nat.eq_of_beq_eq_true hc.1
    simp only [pm_st] at h
    split at h
    · cases h
      exact lv_astore hx hb hd (pm_lv_has hl) (pm_blt hc.2) rfl (fun arr1 q => kk H locs arr1 I0 (pm_HL_1 q))
    · cases h
  case astore_n i =>
    have hc := Bool.and_eq_true_iff.mp hc
    obtain rfl := Nat.eq_of_beq_eq_true hc.1
    simp only [pm_st] at h
    split at h
    · cases h
      exact lv_astore_n hx hb hd rfl (pm_lv_has hl) (pm_blt hc.2) rfl (fun arr1 q => kk H locs arr1 I0 (pm_HL_1 q))
    · cases h
  case iinc i n =>
    have hc := Bool.and_eq_true_iff.mp hc
    obtain rfl := Nat.eq_of_beq_eq_true hc.1
    simp only [pm_st] at h
    split at h
    · rename_i x q
      cases h
      obtain ⟨k, hk⟩ := List.getElem?_of_mem (pm_lv_mem (b := b) (z := z) q)
      exact lv_iinc hx hb hd (pm_lv_has hl) hk rfl (pm_blt hc.2) rfl (fun arr1 q => kk H locs arr1 I0 (pm_HL_1 (v := .int _) q))
    · cases h
  case iadd =>
    obtain rfl := Nat.eq_of_beq_eq_true hc
    simp only [pm_st] at h
    split at h
    · cases h
      exact lv_iadd hx hb hd (kk H locs arr I0 hl)
    · cases h
  case isub =>
    obtain rfl := Nat.eq_of_beq_eq_true hc
    simp only [pm_st] at h
    split at h
    · cases h
      exact lv_isub hx hb hd (kk H locs arr I0 hl)
    · cases h
  case imul =>
    obtain rfl := Nat.eq_of_beq_eq_true hc
    simp only [pm_st] at h
    split at h
    · cases h
      exact lv_imul hx hb hd (kk H locs arr I0 hl)
    · cases h
  case iand =>
    obtain rfl := Nat.eq_of_beq_eq_true hc
    simp only [pm_st] at h
    split at h
    · cases h
      exact lv_iand hx hb hd (kk H locs arr I0 hl)
    · cases h
  case ixor =>
    obtain rfl := Nat.eq_of_beq_eq_true hc
    simp only [pm_st] at h
    split at h
    · cases h
      exact lv_ixor hx hb hd (kk H locs arr I0 hl)
    · cases h
  case ishl =>
    obtain rfl := Nat.eq_of_beq_eq_true hc
    simp only [pm_st] at h
    split at h
    · cases h
      exact lv_ishl hx hb hd (kk H locs arr I0 hl)
    · cases h
  case ishr =>
    obtain rfl := Nat.eq_of_beq_eq_true hc
    simp only [pm_st] at h
    split at h
    · cases h
      exact lv_ishr hx hb hd (kk H locs arr I0 hl)
    · cases h
  case ladd =>
    obtain rfl := Nat.eq_of_beq_eq_true hc
    simp only [pm_st] at h
    split at h
    · cases h
      exact lv_ladd hx hb hd (kk H locs arr I0 hl)
    · cases h
  case lsub =>
    obtain rfl := Nat.eq_of_beq_eq_true hc
    simp only [pm_st] at h
    split at h
    · cases h
      exact lv_lsub hx hb hd (kk H locs arr I0 hl)
    · cases h
  case lmul =>
    obtain rfl := Nat.eq_of_beq_eq_true hc
    simp only [pm_st] at h
    split at h
    · cases h
      exact lv_lmul hx hb hd (kk H locs arr I0 hl)
    · cases h
  case ineg =>
    obtain rfl := Nat.eq_of_beq_eq_true hc
    simp only [pm_st] at h
    split at h
    · cases h
      exact lv_ineg hx hb hd (kk H locs arr I0 hl)
    · cases h
  case lneg =>
    obtain rfl := Nat.eq_of_beq_eq_true hc
    simp only [pm_st] at h
    split at h
    · cases h
      exact lv_lneg hx hb hd (kk H locs arr I0 hl)
    · cases h
  case idiv =>
    obtain rfl := Nat.eq_of_beq_eq_true hc
    simp only [pm_st] at h
    split at h
    · rename_i y x st
      by_cases q : y = 0
      · rw [decide_eq_true q] at h; cases h
      · rw [decide_eq_false q] at h
        cases h
        exact lv_idiv hx hb hd q (kk H locs arr I0 hl)
    · cases h
  case irem =>
    obtain rfl := Nat.eq_of_beq_eq_true hc
    simp only [pm_st] at h
    split at h
    · rename_i y x st
      by_cases q : y = 0
      · rw [decide_eq_true q] at h; cases h
      · rw [decide_eq_false q] at h
        cases h
        exact lv_irem hx hb hd q (kk H locs arr I0 hl)
    · cases h
  case ldiv =>
    obtain rfl := Nat.eq_of_beq_eq_true hc
    simp only [pm_st] at h
    split at h
    · rename_i y x st
      by_cases q : y = 0
      · rw [decide_eq_true q] at h; cases h
      · rw [decide_eq_false q] at h
        cases h
        exact lv_ldiv hx hb hd q (kk H locs arr I0 hl)
    · cases h
  case lrem =>
    obtain rfl := Nat.eq_of_beq_eq_true hc
    simp only [pm_st] at h
    split at h
    · rename_i y x st
      by_cases q : y = 0
      · rw [decide_eq_true q] at h; cases h
      · rw [decide_eq_false q] at h
        cases h
        exact lv_lrem hx hb hd q (kk H locs arr I0 hl)
    · cases h
  case lcmp =>
    obtain rfl := Nat.eq_of_beq_eq_true hc
    simp only [pm_st] at h
    split at h
    · cases h
      exact W.lcmp hx hb hd (kk H locs arr I0 hl)
    · cases h
  case i2l =>
    obtain rfl := Nat.eq_of_beq_eq_true hc
    simp only [pm_st] at h
    split at h
    · cases h
      exact lv_i2l hx hb hd rfl (kk H locs arr I0 hl)
    · cases h
  case l2i =>
    obtain rfl := Nat.eq_of_beq_eq_true hc
    simp only [pm_st] at h
    split at h
    · cases h
      exact lv_l2i hx hb hd rfl (kk H locs arr I0 hl)
    · cases h
  case dup =>
    obtain rfl := Nat.eq_of_beq_eq_true hc
    simp only [pm_st] at h
    split at h
    · cases h
      exact lv_dup hx hb hd rfl (kk H locs arr I0 hl)
    · cases h
      exact lv_dup hx hb hd rfl (kk H locs arr I0 hl)
    · cases h
  case dup2 =>
    obtain rfl := Nat.eq_of_beq_eq_true hc
    simp only [pm_st] at h
    split at h
    · cases h
      exact lv_dup2_11 hx hb hd rfl rfl (kk H locs arr I0 hl)
    · cases h
  case goto off =>
    have hc := Bool.and_eq_true_iff.mp hc
    obtain rfl := Nat.eq_of_beq_eq_true hc.1
    cases h
    exact lv_goto hx hb hd (pm_jp_spec hc.2) (kk H locs arr I0 hl)
  case ifCond cc off =>
    have hc := Bool.and_eq_true_iff.mp hc
    obtain rfl := Nat.eq_of_beq_eq_true hc.1
    have hj := pm_jp_spec hc.2
    simp only [pm_st] at h
    split at h
    · rename_i x st
      cases cc
      case eq =>
        dsimp only at h
        by_cases q : x = 0
        · rw [if_pos q] at h
          cases h
          exact lv_if_eq hx hb hd hj (fun _ => kk H locs arr I0 hl) (fun q2 => absurd q q2)
        · rw [if_neg q] at h
          cases h
          exact lv_if_eq hx hb hd hj (fun q2 => absurd q2 q) (fun _ => kk H locs arr I0 hl)
      case ge =>
        dsimp only at h
        by_cases q : 0 ≤ x
        · rw [if_pos q] at h
          cases h
          exact lv_if_ge hx hb hd hj (fun _ => kk H locs arr I0 hl) (fun q2 => absurd q q2)
        · rw [if_neg q] at h
          cases h
          exact lv_if_ge hx hb hd hj (fun q2 => absurd q2 q) (fun _ => kk H locs arr I0 hl)
      case gt =>
        dsimp only at h
        by_cases q : 0 < x
        · rw [if_pos q] at h
          cases h
          exact lv_if_gt hx hb hd hj (fun _ => kk H locs arr I0 hl) (fun q2 => absurd q q2)
        · rw [if_neg q] at h
          cases h
          exact lv_if_gt hx hb hd hj (fun q2 => absurd q2 q) (fun _ => kk H locs arr I0 hl)
      case le =>
        dsimp only at h
        by_cases q : x ≤ 0
        · rw [if_pos q] at h
          cases h
          exact lv_if_le hx hb hd hj (fun _ => kk H locs arr I0 hl) (fun q2 => absurd q q2)
        · rw [if_neg q] at h
          cases h
          exact lv_if_le hx hb hd hj (fun q2 => absurd q2 q) (fun _ => kk H locs arr I0 hl)
      case lt =>
        dsimp only at h
        by_cases q : x < 0
        · rw [if_pos q] at h
          cases h
          exact lv_if_lt hx hb hd hj (fun _ => kk H locs arr I0 hl) (fun q2 => absurd q q2)
        · rw [if_neg q] at h
          cases h
          exact lv_if_lt hx hb hd hj (fun q2 => absurd q2 q) (fun _ => kk H locs arr I0 hl)
      case ne =>
        dsimp only at h
        by_cases q : x = 0
        · rw [if_pos q] at h
          cases h
          exact lv_if_ne hx hb hd hj (fun q2 => absurd q q2) (fun _ => kk H locs arr I0 hl)
        · rw [if_neg q] at h
          cases h
          exact lv_if_ne hx hb hd hj (fun _ => kk H locs arr I0 hl) (fun q2 => absurd q2 q)
    · cases h
  case if_icmp cc off =>
    have hc := Bool.and_eq_true_iff.mp hc
    obtain rfl := Nat.eq_of_beq_eq_true hc.1
    have hj := pm_jp_spec hc.2
    simp only [pm_st] at h
    split at h
    · rename_i y x st
      cases cc
      case eq =>
        dsimp only at h
        by_cases q : x = y
        · rw [if_pos q] at h
          cases h
          exact lv_icmp_eq hx hb hd hj (fun _ => kk H locs arr I0 hl) (fun q2 => absurd q q2)
        · rw [if_neg q] at h
          cases h
          exact lv_icmp_eq hx hb hd hj (fun q2 => absurd q2 q) (fun _ => kk H locs arr I0 hl)
      case ge =>
        dsimp only at h
        by_cases q : y ≤ x
        · rw [if_pos q] at h
          cases h
          exact lv_icmp_ge hx hb hd hj (fun _ => kk H locs arr I0 hl) (fun q2 => absurd q q2)
        · rw [if_neg q] at h
          cases h
          exact lv_icmp_ge hx hb hd hj (fun q2 => absurd q2 q) (fun _ => kk H locs arr I0 hl)
      case gt =>
        dsimp only at h
        by_cases q : y < x
        · rw [if_pos q] at h
          cases h
          exact lv_icmp_gt hx hb hd hj (fun _ => kk H locs arr I0 hl) (fun q2 => absurd q q2)
        · rw [if_neg q] at h
          cases h
          exact lv_icmp_gt hx hb hd hj (fun q2 => absurd q2 q) (fun _ => kk H locs arr I0 hl)
      case le =>
        dsimp only at h
        by_cases q : x ≤ y
        · rw [if_pos q] at h
          cases h
          exact lv_icmp_le hx hb hd hj (fun _ => kk H locs arr I0 hl) (fun q2 => absurd q q2)
        · rw [if_neg q] at h
          cases h
          exact lv_icmp_le hx hb hd hj (fun q2 => absurd q2 q) (fun _ => kk H locs arr I0 hl)
      case lt =>
        dsimp only at h
        by_cases q : x < y
        · rw [if_pos q] at h
          cases h
          exact lv_icmp_lt hx hb hd hj (fun _ => kk H locs arr I0 hl) (fun q2 => absurd q q2)
        · rw [if_neg q] at h
          cases h
          exact lv_icmp_lt hx hb hd hj (fun q2 => absurd q2 q) (fun _ => kk H locs arr I0 hl)
      case ne =>
        dsimp only at h
        by_cases q : x = y
        · rw [if_pos q] at h
          cases h
          exact lv_icmp_ne hx hb hd hj (fun q2 => absurd q q2) (fun _ => kk H locs arr I0 hl)
        · rw [if_neg q] at h
          cases h
          exact lv_icmp_ne hx hb hd hj (fun _ => kk H locs arr I0 hl) (fun q2 => absurd q2 q)
    · cases h
  case tableswitch dflt lo hi offs =>
    simp only [pm_chI, Bool.and_eq_true, decide_eq_true_eq] at hc
    obtain ⟨⟨⟨⟨hj0, hja⟩, hlo0⟩, hhi⟩, hsz1⟩ := hc
    simp only [pm_st] at h
    split at h
    · rename_i x st
      rcases pm_sw_spec _ _ h with ⟨j, off, q1, q2, q3⟩ | ⟨q1, q3⟩
      · cases q3
        have hjl : j < offs.toList.length := (List.getElem?_eq_some_iff.mp q1).1
        have hxi : x.toInt = lo + j := by rw [q2]; exact pm_small (by omega) (by omega)
        refine lv_tableIn hx hb hd (by omega) (by omega) (off := off) ?_ (pm_jp_spec (List.all_eq_true.mp hja off (List.mem_of_getElem? q1))) (kk H locs arr I0 hl)
        rw [show (x.toInt - lo).toNat = j by omega, ← Array.getElem?_toList]
        exact q1
      · cases q3
        refine lv_tableOut hx hb hd ?_ (pm_jp_spec hj0) (kk H locs arr I0 hl)
        rcases Int.lt_or_le x.toInt lo with q | q
        · exact Or.inl q
        · refine Or.inr ?_
          rcases Int.lt_or_le hi x.toInt with q4 | q4
          · exact q4
          · exfalso
            refine q1 (x.toInt - lo).toNat (by omega) ?_
            rw [show lo + ((x.toInt - lo).toNat : Int) = x.toInt by omega]
            exact (Int32.ofInt_toInt x).symm
    · cases h
  case getfield idx =>
    have hc := Bool.and_eq_true_iff.mp hc
    obtain rfl := Nat.eq_of_beq_eq_true hc.1
    have hc := hc.2
    unfold pm_fl at hc
    have hc := Bool.and_eq_true_iff.mp hc
    have ha := pm_blt hc.1
    have hc := hc.2
    split at hc
    case h_2 => cases hc
    rename_i C T N hcl
    simp only [Bool.and_eq_true] at hc
    obtain ⟨⟨⟨⟨⟨hN, hbN⟩, hvt⟩, hw⟩, hty⟩, hwr⟩ := hc
    have hN := Nat.eq_of_beq_eq_true hN
    have hbN := pm_blt hbN
    have hvt : ((pm_ft a).getD bb 9 : Int) = v := by simpa using hvt
    have hg0 : (pm_ft a).getD bb 0 = (pm_ft a).getD bb 9 := by
      rw [List.getD_eq_getElem?_getD, List.getD_eq_getElem?_getD, List.getElem?_eq_getElem (by omega)]; rfl
    have hbl : bb < (pm_ft a).length := by omega
    have hobj : ∀ {r : Nat}, pm_kd M a r = true → r ≠ 0 ∧ (pm_ws b z ids M)[r - 1]? = some (pm_ad b z r, .inr (a, pm_fs b z M a r)) := by
      intro r hk
      obtain ⟨nn, hnn⟩ := pm_kd_iff.mp hk
      have hr0 : r ≠ 0 := by
        intro q
        subst q
        rw [hM0] at hnn
        cases hnn
        omega
      refine ⟨hr0, ?_⟩
      rw [pm_ws_at hnn hr0]
      unfold pm_ce
      rw [if_pos ha]
    simp only [pm_st] at h
    split at h
    case h_2 => cases h
    rename_i r st
    by_cases v0 : v = 0
    · rw [if_pos v0] at h
      cases hk : pm_kd M a r with
      | false => simp only [pm_gI, hk, cond_false] at h; cases h
      | true =>
        simp only [pm_gI, hk, cond_true] at h
        cases h
        obtain ⟨hr0, he⟩ := hobj hk
        refine va_get hx hb hts2 (pm_clt hcl) hown hK hP (r - 1) he hcl bb hbN (hwd hw) (fun _ q => q) (v := .int (M.2.2.1 r bb)) ?_ hd (kk H locs arr I0 hl)
        rw [pm_fs_get hbl, hg0, show (pm_ft a).getD bb 9 = 0 by omega]
        rfl
    · rw [if_neg v0] at h
      by_cases v1 : v = 1
      · rw [if_pos v1] at h
        cases hk : pm_kd M a r with
        | false => simp only [pm_gL, hk, cond_false] at h; cases h
        | true =>
          simp only [pm_gL, hk, cond_true] at h
          cases h
          obtain ⟨hr0, he⟩ := hobj hk
          refine va_get hx hb hts2 (pm_clt hcl) hown hK hP (r - 1) he hcl bb hbN (hwd hw) (fun _ q => q) (v := .long (M.2.2.2 r bb)) ?_ hd (kk H locs arr I0 hl)
          rw [pm_fs_get hbl, hg0, show (pm_ft a).getD bb 9 = 1 by omega]
          rfl
      · rw [if_neg v1] at h
        cases hk : pm_kd M a r with
        | false => simp only [pm_gR, hk, cond_false] at h; cases h
        | true =>
          simp only [pm_gR, hk, cond_true] at h
          cases hq : M.2.1 r bb with
          | none => rw [hq] at h; cases h
          | some y =>
            rw [hq] at h
            cases h
            obtain ⟨hr0, he⟩ := hobj hk
            refine va_get hx hb hts2 (pm_clt hcl) hown hK hP (r - 1) he hcl bb hbN (hwd hw) (fun _ q => q) (v := .ref (pm_ad b z y)) ?_ hd (kk H locs arr I0 hl)
            rw [pm_fs_get hbl, hg0]
            have hge : ∃ t, (pm_ft a).getD bb 9 = t + 2 := ⟨(pm_ft a).getD bb 9 - 2, by omega⟩
            obtain ⟨t, ht2⟩ := hge
            rw [ht2]
            show some (va_rf ((M.2.1 r bb).map (pm_ad b z))) = _
            rw [hq]
            rfl
  case putfield idx =>
    have hc := Bool.and_eq_true_iff.mp hc
    obtain rfl := Nat.eq_of_beq_eq_true hc.1
    have hc := hc.2
    unfold pm_fl at hc
    have hc := Bool.and_eq_true_iff.mp hc
    have ha := pm_blt hc.1
    have hc := hc.2
    split at hc
    case h_2 => cases hc
    rename_i C T N hcl
    simp only [Bool.and_eq_true] at hc
    obtain ⟨⟨⟨⟨⟨hN, hbN⟩, hvt⟩, hw⟩, hty⟩, hwr⟩ := hc
    have hN := Nat.eq_of_beq_eq_true hN
    have hbN := pm_blt hbN
    have hvt : ((pm_ft a).getD bb 9 : Int) = v := by simpa using hvt
    have hg0 : (pm_ft a).getD bb 0 = (pm_ft a).getD bb 9 := by
      rw [List.getD_eq_getElem?_getD, List.getD_eq_getElem?_getD, List.getElem?_eq_getElem (by omega)]; rfl
    have hbl : bb < (pm_ft a).length := by omega
    have hobj : ∀ {r : Nat}, pm_kd M a r = true → r ≠ 0 ∧ (pm_ws b z ids M)[r - 1]? = some (pm_ad b z r, .inr (a, pm_fs b z M a r)) := by
      intro r hk
      obtain ⟨nn, hnn⟩ := pm_kd_iff.mp hk
      have hr0 : r ≠ 0 := by
        intro q
        subst q
        rw [hM0] at hnn
        cases hnn
        omega
      refine ⟨hr0, ?_⟩
      rw [pm_ws_at hnn hr0]
      unfold pm_ce
      rw [if_pos ha]
    simp only [pm_st] at h
    split at h
    · rename_i x r st
      by_cases v0 : v = 0
      · rw [if_pos v0] at h
        cases hk : pm_kd M a r with
        | false => simp only [pm_pI, hk, cond_false] at h; cases h
        | true =>
          simp only [pm_pI, hk, cond_true] at h
          cases h
          obtain ⟨hr0, he⟩ := hobj hk
          obtain ⟨nn, hnn⟩ := pm_kd_iff.mp hk
          obtain ⟨ty0, t1, t2, -⟩ := pm_cls hcl
          generalize hM1 : (M.1, M.2.1, va_up M.2.2.1 r (va_up (M.2.2.1 r) bb x), M.2.2.2) = M1 at *
          have hs1 : M1.1 = M.1 := by rw [← hM1]
          have h00 : M1.2.2.1 0 = M.2.2.1 0 := by rw [← hM1]; exact pm_up_other _ _ (Ne.symm hr0)
          have hfs : pm_fs b z M1 a r = (pm_fs b z M a r).set bb (.int x) := by
            refine pm_fs_set hbl ?_ ?_
            · rw [hg0]; rw [show (pm_ft a).getD bb 9 = 0 by omega, ← hM1]; show Value.int (va_up M.2.2.1 r (va_up (M.2.2.1 r) bb x) r bb) = _; rw [pm_up_same, pm_up_same]
            · intro j hj t
              rw [← hM1]
              unfold pm_fv
              dsimp only
              rw [pm_up_same, pm_up_other _ _ hj]
          have hws : pm_ws b z ids M1 = (pm_ws b z ids M).set (r - 1) (pm_ad b z r, .inr (a, (pm_fs b z M a r).set bb (.int x))) := by
            rw [pm_ws_set hnn hr0 hs1 (fun i hi q => pm_ce_cong (by rw [← hM1]) (by rw [← hM1]; exact pm_up_other _ _ hi) (by rw [← hM1]) q), ← hfs]
            congr 2
            unfold pm_ce
            rw [if_pos ha]
          have hlen : bb < (pm_fs b z M a r).length := by simp [pm_fs]; exact hbl
          have hpost : ∀ (H1 : Heap) (locs1 : List Loc), va_P D pm_cl ((pm_ws b z ids M).set (r - 1) (pm_ad b z r, .inr (a, (pm_fs b z M a r).set bb (.int x)))) H1 → va_D (pm_A z) ((pm_ws b z ids M).set (r - 1) (pm_ad b z r, .inr (a, (pm_fs b z M a r).set bb (.int x)))) → va_S (pm_A z) H H1 locs1 → W p l e R s m args below meth c H1 locs1 (M.1.length - n0) (pm_tot M - t0) Q (F0 m (pc + 3) arr (List.map (pm_cv b z) st1)) := by
            intro H1 locs1 q1 _ q3
            rw [← hws] at q1
            exact pm_stored X0 I0 hn hs1 h00 q1 q3 (fun I1 => kk H1 locs1 arr I1 hl)
          rw [if_pos v0] at hty; have hty : parseFieldDescriptor (T bb).2.2.1 = some .int := by simpa using hty
          rcases hf : (T bb).2.2.2 with _ | _
          · exact va_put hx hb hts2 (pm_clt hcl) ty0 t1 t2 hown hK hP hD (pm_S_self hS) (r - 1) he hcl bb hbN (hwd hw) (fun _ q => q) hf hty rfl rfl hlen hd hpost
          · rw [hf] at hwr
            simp only [Bool.not_true, Bool.false_or, Bool.and_eq_true, decide_eq_true_eq] at hwr
            exact va_putF hx hb hts2 (pm_clt hcl) ty0 t1 t2 hown hK hP hD (pm_S_self hS) (r - 1) he hcl bb hbN (hwd hw) (fun _ q => q) hf (hini (Nat.eq_of_beq_eq_true hwr.1)) hwr.2 hty rfl rfl hlen hd hpost
      · rw [if_neg v0] at h
        cases h
    · rename_i x r st
      by_cases v0 : v = 1
      · rw [if_pos v0] at h
        cases hk : pm_kd M a r with
        | false => simp only [pm_pL, hk, cond_false] at h; cases h
        | true =>
          simp only [pm_pL, hk, cond_true] at h
          cases h
          obtain ⟨hr0, he⟩ := hobj hk
          obtain ⟨nn, hnn⟩ := pm_kd_iff.mp hk
          obtain ⟨ty0, t1, t2, -⟩ := pm_cls hcl
          generalize hM1 : (M.1, M.2.1, M.2.2.1, va_up M.2.2.2 r (va_up (M.2.2.2 r) bb x)) = M1 at *
          have hs1 : M1.1 = M.1 := by rw [← hM1]
          have h00 : M1.2.2.1 0 = M.2.2.1 0 := by rw [← hM1]
          have hfs : pm_fs b z M1 a r = (pm_fs b z M a r).set bb (.long x) := by
            refine pm_fs_set hbl ?_ ?_
            · rw [hg0]; rw [show (pm_ft a).getD bb 9 = 1 by omega, ← hM1]; show Value.long (va_up M.2.2.2 r (va_up (M.2.2.2 r) bb x) r bb) = _; rw [pm_up_same, pm_up_same]
            · intro j hj t
              rw [← hM1]
              unfold pm_fv
              dsimp only
              rw [pm_up_same, pm_up_other _ _ hj]
          have hws : pm_ws b z ids M1 = (pm_ws b z ids M).set (r - 1) (pm_ad b z r, .inr (a, (pm_fs b z M a r).set bb (.long x))) := by
            rw [pm_ws_set hnn hr0 hs1 (fun i hi q => pm_ce_cong (by rw [← hM1]) (by rw [← hM1]) (by rw [← hM1]; exact pm_up_other _ _ hi) q), ← hfs]
            congr 2
            unfold pm_ce
            rw [if_pos ha]
          have hlen : bb < (pm_fs b z M a r).length := by simp [pm_fs]; exact hbl
          have hpost : ∀ (H1 : Heap) (locs1 : List Loc), va_P D pm_cl ((pm_ws b z ids M).set (r - 1) (pm_ad b z r, .inr (a, (pm_fs b z M a r).set bb (.long x)))) H1 → va_D (pm_A z) ((pm_ws b z ids M).set (r - 1) (pm_ad b z r, .inr (a, (pm_fs b z M a r).set bb (.long x)))) → va_S (pm_A z) H H1 locs1 → W p l e R s m args below meth c H1 locs1 (M.1.length - n0) (pm_tot M - t0) Q (F0 m (pc + 3) arr (List.map (pm_cv b z) st1)) := by
            intro H1 locs1 q1 _ q3
            rw [← hws] at q1
            exact pm_stored X0 I0 hn hs1 h00 q1 q3 (fun I1 => kk H1 locs1 arr I1 hl)
          rw [if_neg (by omega), if_pos v0] at hty; have hty : parseFieldDescriptor (T bb).2.2.1 = some .long := by simpa using hty
          rcases hf : (T bb).2.2.2 with _ | _
          · exact va_put hx hb hts2 (pm_clt hcl) ty0 t1 t2 hown hK hP hD (pm_S_self hS) (r - 1) he hcl bb hbN (hwd hw) (fun _ q => q) hf hty rfl rfl hlen hd hpost
          · rw [hf] at hwr
            simp only [Bool.not_true, Bool.false_or, Bool.and_eq_true, decide_eq_true_eq] at hwr
            exact va_putF hx hb hts2 (pm_clt hcl) ty0 t1 t2 hown hK hP hD (pm_S_self hS) (r - 1) he hcl bb hbN (hwd hw) (fun _ q => q) hf (hini (Nat.eq_of_beq_eq_true hwr.1)) hwr.2 hty rfl rfl hlen hd hpost
      · rw [if_neg v0] at h
        cases h
    · rename_i x r st
      by_cases v0 : v = 2
      · rw [if_pos v0] at h
        cases hk : pm_kd M a r with
        | false => simp only [pm_pR, hk, cond_false] at h; cases h
        | true =>
          simp only [pm_pR, hk, cond_true] at h
          cases h
          obtain ⟨hr0, he⟩ := hobj hk
          obtain ⟨nn, hnn⟩ := pm_kd_iff.mp hk
          obtain ⟨ty0, t1, t2, -⟩ := pm_cls hcl
          generalize hM1 : (M.1, va_up M.2.1 r (va_up (M.2.1 r) bb (some x)), M.2.2.1, M.2.2.2) = M1 at *
          have hs1 : M1.1 = M.1 := by rw [← hM1]
          have h00 : M1.2.2.1 0 = M.2.2.1 0 := by rw [← hM1]
          have hfs : pm_fs b z M1 a r = (pm_fs b z M a r).set bb (.ref (pm_ad b z x)) := by
            refine pm_fs_set hbl ?_ ?_
            · rw [hg0]; rw [show (pm_ft a).getD bb 9 = 2 by omega, ← hM1]; show va_rf ((va_up M.2.1 r (va_up (M.2.1 r) bb (some x)) r bb).map (pm_ad b z)) = _; rw [pm_up_same, pm_up_same]; rfl
            · intro j hj t
              rw [← hM1]
              unfold pm_fv
              dsimp only
              rw [pm_up_same, pm_up_other _ _ hj]
          have hws : pm_ws b z ids M1 = (pm_ws b z ids M).set (r - 1) (pm_ad b z r, .inr (a, (pm_fs b z M a r).set bb (.ref (pm_ad b z x)))) := by
            rw [pm_ws_set hnn hr0 hs1 (fun i hi q => pm_ce_cong (by rw [← hM1]; exact pm_up_other _ _ hi) (by rw [← hM1]) (by rw [← hM1]) q), ← hfs]
            congr 2
            unfold pm_ce
            rw [if_pos ha]
          have hlen : bb < (pm_fs b z M a r).length := by simp [pm_fs]; exact hbl
          have hpost : ∀ (H1 : Heap) (locs1 : List Loc), va_P D pm_cl ((pm_ws b z ids M).set (r - 1) (pm_ad b z r, .inr (a, (pm_fs b z M a r).set bb (.ref (pm_ad b z x))))) H1 → va_D (pm_A z) ((pm_ws b z ids M).set (r - 1) (pm_ad b z r, .inr (a, (pm_fs b z M a r).set bb (.ref (pm_ad b z x))))) → va_S (pm_A z) H H1 locs1 → W p l e R s m args below meth c H1 locs1 (M.1.length - n0) (pm_tot M - t0) Q (F0 m (pc + 3) arr (List.map (pm_cv b z) st1)) := by
            intro H1 locs1 q1 _ q3
            rw [← hws] at q1
            exact pm_stored X0 I0 hn hs1 h00 q1 q3 (fun I1 => kk H1 locs1 arr I1 hl)
          rw [if_neg (by omega), if_neg (by omega)] at hty
          have hty2 : ∃ ty, parseFieldDescriptor (T bb).2.2.1 = some ty ∧ narrow ty (.ref (pm_ad b z x)) = .ref (pm_ad b z x) ∧ fits ty (.ref (pm_ad b z x)) = true := by
            unfold pm_isR at hty
            split at hty
            · rename_i e2; exact ⟨_, e2, rfl, rfl⟩
            · rename_i e2; exact ⟨_, e2, rfl, rfl⟩
            · cases hty
          obtain ⟨ty, hty, hn1, hf1⟩ := hty2
          rcases hf : (T bb).2.2.2 with _ | _
          · exact va_put hx hb hts2 (pm_clt hcl) ty0 t1 t2 hown hK hP hD (pm_S_self hS) (r - 1) he hcl bb hbN (hwd hw) (fun _ q => q) hf hty hn1 hf1 hlen hd hpost
          · rw [hf] at hwr
            simp only [Bool.not_true, Bool.false_or, Bool.and_eq_true, decide_eq_true_eq] at hwr
            exact va_putF hx hb hts2 (pm_clt hcl) ty0 t1 t2 hown hK hP hD (pm_S_self hS) (r - 1) he hcl bb hbN (hwd hw) (fun _ q => q) hf (hini (Nat.eq_of_beq_eq_true hwr.1)) hwr.2 hty hn1 hf1 hlen hd hpost
      · rw [if_neg v0] at h
        cases h
    · cases h
  case arraylength =>
    obtain rfl := Nat.eq_of_beq_eq_true hc
    simp only [pm_st] at h
    split at h
    case h_2 => cases h
    rename_i r st
    cases hq : pm_al M r with
    | none => rw [hq] at h; cases h
    | some y =>
      rw [hq] at h
      cases h
      unfold pm_al at hq
      split at hq
      case h_2 => cases hq
      rename_i cK nn hnn
      cases hk : (Nat.blt 7 cK && Nat.blt cK 11) with
      | false => rw [hk] at hq; cases hq
      | true =>
        rw [hk] at hq
        cases hq
        rw [Bool.and_eq_true] at hk
        have k1 := pm_blt hk.1
        have k2 := pm_blt hk.2
        by_cases hr0 : r = 0
        · subst hr0
          rw [hM0] at hnn
          cases hnn
          exact va_slen hx hb hX hbs (show ¬ z ≤ b by omega) hS hd (kk H locs arr I0 hl)
        · have he := pm_ws_at (b := b) (z := z) (ids := ids) hnn hr0
          unfold pm_ce at he
          rw [if_neg (by show ¬ cK < 8; omega)] at he
          by_cases h8 : cK = 8
          · rw [if_pos h8] at he
            exact va_alen hx hb hK hP (r - 1) 0 he (ty := .int) rfl rfl hd (kk H locs arr I0 hl)
          · rw [if_neg h8] at he
            by_cases h9 : cK = 9
            · rw [if_pos h9] at he
              exact va_alen hx hb hK hP (r - 1) 1 he (ty := .long) rfl rfl hd (kk H locs arr I0 hl)
            · rw [if_neg h9] at he
              exact va_alen hx hb hK hP (r - 1) 2 he (ty := .object RX5) rfl rfl hd (kk H locs arr I0 hl)
  case iaload =>
    obtain rfl := Nat.eq_of_beq_eq_true hc
    have hai : ∀ {r nn : Nat}, M.1[r]? = some (8, nn) → r ≠ 0 → (pm_ws b z ids M)[r - 1]? = some (pm_ad b z r, .inl (ids.1, nn, .inl (M.2.2.1 r))) := fun q q0 => pm_ws_at q q0
    have hal : ∀ {r nn : Nat}, M.1[r]? = some (9, nn) → r ≠ 0 ∧ (pm_ws b z ids M)[r - 1]? = some (pm_ad b z r, .inl (ids.2.1, nn, .inr (.inl (M.2.2.2 r)))) := fun {r nn} q => by
      have q0 : r ≠ 0 := by
        intro z0
        subst z0
        rw [hM0] at q
        cases q
      exact ⟨q0, pm_ws_at q q0⟩
    have har : ∀ {r nn : Nat}, M.1[r]? = some (10, nn) → r ≠ 0 ∧ (pm_ws b z ids M)[r - 1]? = some (pm_ad b z r, .inl (ids.2.2, nn, .inr (.inr (.inr (.inr (fun j => (M.2.1 r j).map (pm_ad b z))))))) := fun {r nn} q => by
      have q0 : r ≠ 0 := by
        intro z0
        subst z0
        rw [hM0] at q
        cases q
      exact ⟨q0, pm_ws_at q q0⟩
    simp only [pm_st] at h
    split at h
    case h_2 => cases h
    rename_i i r st
    cases hn9 : pm_ln M 8 r with
    | none => simp only [pm_aI, hn9, Option.bind_none] at h; cases h
    | some nn =>
      have hnn := pm_ln_iff.mp hn9
      simp only [pm_aI, hn9, Option.bind_some] at h
      by_cases hin : i < 0 ∨ nn ≤ i.toNatClampNeg
      · rw [if_pos hin] at h; cases h
      · rw [if_neg hin] at h
        cases h
        by_cases hr0 : r = 0
        · subst hr0
          rw [hM0] at hnn
          cases hnn
          rw [hMx] at kk
          exact va_sld hx hb hX hbs (show ¬ z ≤ b by omega) hS hin hd (kk H locs arr I0 hl)
        · exact va_iald hx hb hK hP (r - 1) 0 (hai hnn hr0) rfl hin hd (kk H locs arr I0 hl)
  case laload =>
    obtain rfl := Nat.eq_of_beq_eq_true hc
    have hai : ∀ {r nn : Nat}, M.1[r]? = some (8, nn) → r ≠ 0 → (pm_ws b z ids M)[r - 1]? = some (pm_ad b z r, .inl (ids.1, nn, .inl (M.2.2.1 r))) := fun q q0 => pm_ws_at q q0
    have hal : ∀ {r nn : Nat}, M.1[r]? = some (9, nn) → r ≠ 0 ∧ (pm_ws b z ids M)[r - 1]? = some (pm_ad b z r, .inl (ids.2.1, nn, .inr (.inl (M.2.2.2 r)))) := fun {r nn} q => by
      have q0 : r ≠ 0 := by
        intro z0
        subst z0
        rw [hM0] at q
        cases q
      exact ⟨q0, pm_ws_at q q0⟩
    have har : ∀ {r nn : Nat}, M.1[r]? = some (10, nn) → r ≠ 0 ∧ (pm_ws b z ids M)[r - 1]? = some (pm_ad b z r, .inl (ids.2.2, nn, .inr (.inr (.inr (.inr (fun j => (M.2.1 r j).map (pm_ad b z))))))) := fun {r nn} q => by
      have q0 : r ≠ 0 := by
        intro z0
        subst z0
        rw [hM0] at q
        cases q
      exact ⟨q0, pm_ws_at q q0⟩
    simp only [pm_st] at h
    split at h
    case h_2 => cases h
    rename_i i r st
    cases hn9 : pm_ln M 9 r with
    | none => simp only [pm_aL, hn9, Option.bind_none] at h; cases h
    | some nn =>
      have hnn := pm_ln_iff.mp hn9
      simp only [pm_aL, hn9, Option.bind_some] at h
      by_cases hin : i < 0 ∨ nn ≤ i.toNatClampNeg
      · rw [if_pos hin] at h; cases h
      · rw [if_neg hin] at h
        cases h
        exact va_lald hx hb hK hP (r - 1) 1 (hal hnn).2 rfl hin hd (kk H locs arr I0 hl)
  case aaload =>
    obtain rfl := Nat.eq_of_beq_eq_true hc
    have hai : ∀ {r nn : Nat}, M.1[r]? = some (8, nn) → r ≠ 0 → (pm_ws b z ids M)[r - 1]? = some (pm_ad b z r, .inl (ids.1, nn, .inl (M.2.2.1 r))) := fun q q0 => pm_ws_at q q0
    have hal : ∀ {r nn : Nat}, M.1[r]? = some (9, nn) → r ≠ 0 ∧ (pm_ws b z ids M)[r - 1]? = some (pm_ad b z r, .inl (ids.2.1, nn, .inr (.inl (M.2.2.2 r)))) := fun {r nn} q => by
      have q0 : r ≠ 0 := by
        intro z0
        subst z0
        rw [hM0] at q
        cases q
      exact ⟨q0, pm_ws_at q q0⟩
    have har : ∀ {r nn : Nat}, M.1[r]? = some (10, nn) → r ≠ 0 ∧ (pm_ws b z ids M)[r - 1]? = some (pm_ad b z r, .inl (ids.2.2, nn, .inr (.inr (.inr (.inr (fun j => (M.2.1 r j).map (pm_ad b z))))))) := fun {r nn} q => by
      have q0 : r ≠ 0 := by
        intro z0
        subst z0
        rw [hM0] at q
        cases q
      exact ⟨q0, pm_ws_at q q0⟩
    simp only [pm_st] at h
    split at h
    case h_2 => cases h
    rename_i i r st
    cases hn9 : pm_ln M 10 r with
    | none => simp only [pm_aR, hn9, Option.bind_none] at h; cases h
    | some nn =>
      have hnn := pm_ln_iff.mp hn9
      simp only [pm_aR, hn9, Option.bind_some] at h
      by_cases hin : i < 0 ∨ nn ≤ i.toNatClampNeg
      · rw [if_pos hin] at h; cases h
      · rw [if_neg hin] at h
        cases hq : M.2.1 r i.toNatClampNeg with
        | none => rw [hq] at h; cases h
        | some y =>
          rw [hq] at h
          cases h
          refine va_aldq hx hb hK hP (r - 1) 2 (har hnn).2 (C := RX5) rfl hin hd ?_
          rw [hq]
          exact kk H locs arr I0 hl
  case iastore =>
    obtain rfl := Nat.eq_of_beq_eq_true hc
    have hai : ∀ {r nn : Nat}, M.1[r]? = some (8, nn) → r ≠ 0 → (pm_ws b z ids M)[r - 1]? = some (pm_ad b z r, .inl (ids.1, nn, .inl (M.2.2.1 r))) := fun q q0 => pm_ws_at q q0
    have hal : ∀ {r nn : Nat}, M.1[r]? = some (9, nn) → r ≠ 0 ∧ (pm_ws b z ids M)[r - 1]? = some (pm_ad b z r, .inl (ids.2.1, nn, .inr (.inl (M.2.2.2 r)))) := fun {r nn} q => by
      have q0 : r ≠ 0 := by
        intro z0
        subst z0
        rw [hM0] at q
        cases q
      exact ⟨q0, pm_ws_at q q0⟩
    have har : ∀ {r nn : Nat}, M.1[r]? = some (10, nn) → r ≠ 0 ∧ (pm_ws b z ids M)[r - 1]? = some (pm_ad b z r, .inl (ids.2.2, nn, .inr (.inr (.inr (.inr (fun j => (M.2.1 r j).map (pm_ad b z))))))) := fun {r nn} q => by
      have q0 : r ≠ 0 := by
        intro z0
        subst z0
        rw [hM0] at q
        cases q
      exact ⟨q0, pm_ws_at q q0⟩
    simp only [pm_st] at h
    split at h
    case h_2 => cases h
    rename_i x i r st
    cases hz9 : Nat.beq r 0 with
    | true => simp only [pm_sI, hz9, cond_true] at h; cases h
    | false =>
      have hr0 : r ≠ 0 := fun q => by rw [q] at hz9; cases hz9
      cases hn9 : pm_ln M 8 r with
      | none => simp only [pm_sI, hz9, cond_false, hn9, Option.bind_none] at h; cases h
      | some nn =>
        have hnn := pm_ln_iff.mp hn9
        simp only [pm_sI, hz9, cond_false, hn9, Option.bind_some] at h
        by_cases hin : i < 0 ∨ nn ≤ i.toNatClampNeg
        · rw [if_pos hin] at h; cases h
        · rw [if_neg hin] at h
          cases h
          
          generalize hM1 : (M.1, M.2.1, va_up M.2.2.1 r (va_up (M.2.2.1 r) i.toNatClampNeg x), M.2.2.2) = M1 at *
          have hs1 : M1.1 = M.1 := by rw [← hM1]
          have h00 : M1.2.2.1 0 = M.2.2.1 0 := by rw [← hM1]; exact pm_up_other _ _ (Ne.symm hr0)
          have hws : pm_ws b z ids M1 = (pm_ws b z ids M).set (r - 1) (pm_ad b z r, .inl (ids.1, nn, .inl (upd (M.2.2.1 r) i.toNatClampNeg x))) := by
            rw [pm_ws_set hnn hr0 hs1 (fun i hi q => pm_ce_cong (by rw [← hM1]) (by rw [← hM1]; exact pm_up_other _ _ hi) (by rw [← hM1]) q)]
            congr 2
            rw [← hM1]
            show Sum.inl (ids.1, nn, Sum.inl (va_up M.2.2.1 r (va_up (M.2.2.1 r) i.toNatClampNeg x) r)) = _; rw [pm_up_same]; rfl
          refine va_iast hx hb hK hP hD (pm_S_self hS) (r - 1) 0 (hai hnn hr0) rfl hin hd ?_
          intro H1 locs1 q1 _ q3
          have q1 : va_P D pm_cl ((pm_ws b z ids M).set (r - 1) (pm_ad b z r, .inl (ids.1, nn, .inl (upd (M.2.2.1 r) i.toNatClampNeg x)))) H1 := q1
          rw [← hws] at q1
          exact pm_stored X0 I0 hn hs1 h00 q1 q3 (fun I1 => kk H1 locs1 arr I1 hl)
  case lastore =>
    obtain rfl := Nat.eq_of_beq_eq_true hc
    have hai : ∀ {r nn : Nat}, M.1[r]? = some (8, nn) → r ≠ 0 → (pm_ws b z ids M)[r - 1]? = some (pm_ad b z r, .inl (ids.1, nn, .inl (M.2.2.1 r))) := fun q q0 => pm_ws_at q q0
    have hal : ∀ {r nn : Nat}, M.1[r]? = some (9, nn) → r ≠ 0 ∧ (pm_ws b z ids M)[r - 1]? = some (pm_ad b z r, .inl (ids.2.1, nn, .inr (.inl (M.2.2.2 r)))) := fun {r nn} q => by
      have q0 : r ≠ 0 := by
        intro z0
        subst z0
        rw [hM0] at q
        cases q
      exact ⟨q0, pm_ws_at q q0⟩
    have har : ∀ {r nn : Nat}, M.1[r]? = some (10, nn) → r ≠ 0 ∧ (pm_ws b z ids M)[r - 1]? = some (pm_ad b z r, .inl (ids.2.2, nn, .inr (.inr (.inr (.inr (fun j => (M.2.1 r j).map (pm_ad b z))))))) := fun {r nn} q => by
      have q0 : r ≠ 0 := by
        intro z0
        subst z0
        rw [hM0] at q
        cases q
      exact ⟨q0, pm_ws_at q q0⟩
    simp only [pm_st] at h
    split at h
    case h_2 => cases h
    rename_i x i r st
    cases hn9 : pm_ln M 9 r with
    | none => simp only [pm_sL, hn9, Option.bind_none] at h; cases h
    | some nn =>
      have hnn := pm_ln_iff.mp hn9
      simp only [pm_sL, hn9, Option.bind_some] at h
      by_cases hin : i < 0 ∨ nn ≤ i.toNatClampNeg
      · rw [if_pos hin] at h; cases h
      · rw [if_neg hin] at h
        cases h
        have hr0 := (hal hnn).1
        generalize hM1 : (M.1, M.2.1, M.2.2.1, va_up M.2.2.2 r (va_up (M.2.2.2 r) i.toNatClampNeg x)) = M1 at *
        have hs1 : M1.1 = M.1 := by rw [← hM1]
        have h00 : M1.2.2.1 0 = M.2.2.1 0 := by rw [← hM1]
        have hws : pm_ws b z ids M1 = (pm_ws b z ids M).set (r - 1) (pm_ad b z r, .inl (ids.2.1, nn, .inr (.inl (vp_updL (M.2.2.2 r) i.toNatClampNeg x)))) := by
          rw [pm_ws_set hnn hr0 hs1 (fun i hi q => pm_ce_cong (by rw [← hM1]) (by rw [← hM1]) (by rw [← hM1]; exact pm_up_other _ _ hi) q)]
          congr 2
          rw [← hM1]
          show Sum.inl (ids.2.1, nn, Sum.inr (Sum.inl (va_up M.2.2.2 r (va_up (M.2.2.2 r) i.toNatClampNeg x) r))) = _; rw [pm_up_same]; rfl
        refine va_last hx hb hK hP hD (pm_S_self hS) (r - 1) 1 (hal hnn).2 rfl hin hd ?_
        intro H1 locs1 q1 _ q3
        have q1 : va_P D pm_cl ((pm_ws b z ids M).set (r - 1) (pm_ad b z r, .inl (ids.2.1, nn, .inr (.inl (vp_updL (M.2.2.2 r) i.toNatClampNeg x))))) H1 := q1
        rw [← hws] at q1
        exact pm_stored X0 I0 hn hs1 h00 q1 q3 (fun I1 => kk H1 locs1 arr I1 hl)
  case aastore =>
    obtain rfl := Nat.eq_of_beq_eq_true hc
    have hai : ∀ {r nn : Nat}, M.1[r]? = some (8, nn) → r ≠ 0 → (pm_ws b z ids M)[r - 1]? = some (pm_ad b z r, .inl (ids.1, nn, .inl (M.2.2.1 r))) := fun q q0 => pm_ws_at q q0
    have hal : ∀ {r nn : Nat}, M.1[r]? = some (9, nn) → r ≠ 0 ∧ (pm_ws b z ids M)[r - 1]? = some (pm_ad b z r, .inl (ids.2.1, nn, .inr (.inl (M.2.2.2 r)))) := fun {r nn} q => by
      have q0 : r ≠ 0 := by
        intro z0
        subst z0
        rw [hM0] at q
        cases q
      exact ⟨q0, pm_ws_at q q0⟩
    have har : ∀ {r nn : Nat}, M.1[r]? = some (10, nn) → r ≠ 0 ∧ (pm_ws b z ids M)[r - 1]? = some (pm_ad b z r, .inl (ids.2.2, nn, .inr (.inr (.inr (.inr (fun j => (M.2.1 r j).map (pm_ad b z))))))) := fun {r nn} q => by
      have q0 : r ≠ 0 := by
        intro z0
        subst z0
        rw [hM0] at q
        cases q
      exact ⟨q0, pm_ws_at q q0⟩
    simp only [pm_st] at h
    split at h
    case h_2 => cases h
    rename_i x i r st
    cases hk5 : pm_kd M 5 x with
    | false => simp only [pm_sR, hk5, cond_false] at h; cases h
    | true =>
      obtain ⟨n5, hn5⟩ := pm_kd_iff.mp hk5
      have hx0 : x ≠ 0 := by
        intro q
        subst q
        rw [hM0] at hn5
        cases hn5
      have he5 : (pm_ws b z ids M)[x - 1]? = some (pm_ad b z x, .inr (5, pm_fs b z M 5 x)) := pm_ws_at hn5 hx0
      cases hn9 : pm_ln M 10 r with
      | none => simp only [pm_sR, hk5, cond_true, hn9, Option.bind_none] at h; cases h
      | some nn =>
        have hnn := pm_ln_iff.mp hn9
        simp only [pm_sR, hk5, cond_true, hn9, Option.bind_some] at h
        by_cases hin : i < 0 ∨ nn ≤ i.toNatClampNeg
        · rw [if_pos hin] at h; cases h
        · rw [if_neg hin] at h
          cases h
          have hr0 := (har hnn).1
          generalize hM1 : (M.1, va_up M.2.1 r (va_up (M.2.1 r) i.toNatClampNeg (some x)), M.2.2.1, M.2.2.2) = M1 at *
          have hs1 : M1.1 = M.1 := by rw [← hM1]
          have h00 : M1.2.2.1 0 = M.2.2.1 0 := by rw [← hM1]
          have hws : pm_ws b z ids M1 = (pm_ws b z ids M).set (r - 1) (pm_ad b z r, .inl (ids.2.2, nn, .inr (.inr (.inr (.inr (va_up (fun j => (M.2.1 r j).map (pm_ad b z)) i.toNatClampNeg (some (pm_ad b z x)))))))) := by
            rw [pm_ws_set hnn hr0 hs1 (fun i hi q => pm_ce_cong (by rw [← hM1]; exact pm_up_other _ _ hi) (by rw [← hM1]) (by rw [← hM1]) q)]
            congr 2
            rw [← hM1]
            show Sum.inl (ids.2.2, nn, Sum.inr (Sum.inr (Sum.inr (Sum.inr (fun j => (va_up M.2.1 r (va_up (M.2.1 r) i.toNatClampNeg (some x)) r j).map (pm_ad b z)))))) = _; rw [pm_up_same]; refine congrArg (fun f => Sum.inl (ids.2.2, nn, Sum.inr (Sum.inr (Sum.inr (Sum.inr f))))) (funext fun j => ?_); unfold va_up; split <;> rfl
          refine va_astq hx hb hK hP hD (pm_S_self hS) (r - 1) 2 (x - 1) 5 (har hnn).2 (r := (RX5, TX5, 4)) rfl he5 rfl hin hd ?_
          intro H1 locs1 q1 _ q3
          have q1 : va_P D pm_cl ((pm_ws b z ids M).set (r - 1) (pm_ad b z r, .inl (ids.2.2, nn, .inr (.inr (.inr (.inr (va_up (fun j => (M.2.1 r j).map (pm_ad b z)) i.toNatClampNeg (some (pm_ad b z x))))))))) H1 := q1
          rw [← hws] at q1
          exact pm_stored X0 I0 hn hs1 h00 q1 q3 (fun I1 => kk H1 locs1 arr I1 hl)
  case new idx =>
    simp only [pm_chI, Bool.and_eq_true] at hc
    obtain ⟨⟨hc1, hc2⟩, hc3⟩ := hc
    obtain rfl := Nat.eq_of_beq_eq_true hc1
    have ha := pm_blt hc2
    split at hc3
    case h_2 => cases hc3
    rename_i C T N hcl
    simp only [Bool.and_eq_true] at hc3
    obtain ⟨⟨q1, q2⟩, q3⟩ := hc3
    have q1 := Nat.eq_of_beq_eq_true q1
    have q2 := Nat.eq_of_beq_eq_true q2
    cases h
    obtain ⟨ty0, t1, -, t3⟩ := pm_cls hcl
    have hct : pm_tot (pm_new M (a, bb)) = pm_tot M + bb := by simp [pm_tot, pm_new]
    have hcl1 : (pm_new M (a, bb)).1.length = M.1.length + 1 := by simp [pm_new]
    rw [hct] at hr2
    rw [hcl1] at hr1
    have hfs : ∀ j, j < N → defaultValue (ty0 j) = vp_V (pm_fs b z (pm_new M (a, bb)) a M.1.length) j := by
      intro j hj
      rw [t3 j hj]
      unfold vp_V
      rw [show (pm_fs b z (pm_new M (a, bb)) a M.1.length).getD j .null = pm_fv b z (pm_new M (a, bb)) M.1.length j ((pm_ft a).getD j 0) by rw [List.getD_eq_getElem?_getD, pm_fs_get (by omega), Option.getD_some]]
      unfold pm_fv pm_new
      dsimp only
      rw [pm_up_same, pm_up_same, pm_up_same]
      generalize (pm_ft a).getD j 0 = t
      rcases t with _ | _ | t <;> rfl
    refine va_new hx hb hts2 (pm_clt hcl) ty0 t1 hown (hwd q3) (hts _ (pm_inst hcl).1 (pm_inst hcl).2) (hts _ (pm_inid hcl).1 (pm_inid hcl).2) hK hP hD (pm_S_self hS) (fun q hq => by show z ≤ q; omega) hcl hfs (by omega) (by omega) hd ?_
    intro q H1 k1 k2 k3
    have hq : (pm_ws b z ids (pm_new M (a, bb))) = pm_ws b z ids M ++ [(z + (M.1.length - 1), .inr (a, pm_fs b z (pm_new M (a, bb)) a M.1.length))] := by
      rw [pm_ws_push (M := M) (q := (a, bb)) (by omega) rfl (fun i hi q => pm_ce_cong (pm_up_other _ _ hi) (pm_up_other _ _ hi) (pm_up_other _ _ hi) q)]
      congr 3
      unfold pm_ce
      rw [if_pos ha]
    exact pm_made X0 I0 hn ht k1 k2 k3 hq hcl1 (by rw [hct, q2]) (show va_up M.2.2.1 M.1.length (fun _ => 0) 0 = _ from pm_up_other _ _ (by omega)) (by show (M.1 ++ [(a, bb)])[0]? = _; rw [List.getElem?_append_left (by omega)]; exact hM0) (fun H1 locs1 I1 => kk H1 locs1 arr I1 hl)
  case newarray t =>
    simp only [pm_chI, Bool.and_eq_true, Bool.or_eq_true, decide_eq_true_eq] at hc
    obtain ⟨hc1, hc2⟩ := hc
    obtain rfl := Nat.eq_of_beq_eq_true hc1
    simp only [pm_st] at h
    split at h
    case h_2 => cases h
    rename_i nI st
    by_cases hb9 : nI < 0 ∨ 100000 < nI.toNatClampNeg
    · rw [if_pos hb9] at h; cases h
    · rw [if_neg hb9] at h
      cases h
      have hn0 : ¬ nI < 0 := fun q => hb9 (Or.inl q)
      have hn1 : nI.toNatClampNeg ≤ 100000 := Nat.le_of_not_lt fun q => hb9 (Or.inr q)
      generalize hNN : nI.toNatClampNeg = NN at *
      have hct : pm_tot (pm_new M (a, NN)) = pm_tot M + NN := by simp [pm_tot, pm_new]
      have hcl1 : (pm_new M (a, NN)).1.length = M.1.length + 1 := by simp [pm_new]
      rw [hct] at hr2
      rw [hcl1] at hr1
      have hAll : ∀ q, H.size ≤ q → pm_A z q := fun q hq => by show z ≤ q; omega
      have hx00 : va_up M.2.2.1 M.1.length (fun _ => 0) 0 = M.2.2.1 0 := pm_up_other _ _ (by omega)
      have hM00 : (M.1 ++ [(a, NN)])[0]? = some (8, L) := by rw [List.getElem?_append_left (by omega)]; exact hM0
      rcases hc2 with ⟨ha, rfl⟩ | ⟨ha, rfl⟩
      · obtain rfl := Nat.eq_of_beq_eq_true ha
        refine va_newa (atype := .int) hx hb (hts _ pm_arrI.1 pm_arrI.2) (ty := .int) rfl hK hP hD (pm_S_self hS) hAll (a0 := (NN, .inl (fun _ => 0))) (fun cA => rfl) hn0 hNN (by show NN * 4 ≤ _; omega) (by omega) (by omega) hd ?_
        intro q cA H1 k0 k1 k2 k3
        have e1 : cA = ids.1 := by
          have f1 := (k0.2 3 (cA, .int) rfl).2
          have f2 := (hK.2 0 (ids.1, .int) rfl).2
          exact Option.some.inj (f1.symm.trans f2)
        subst e1
        have hq : (pm_ws b z ids (pm_new M (8, NN))) = pm_ws b z ids M ++ [(z + (M.1.length - 1), .inl (ids.1, NN, .inl (fun _ => 0)))] := by
          rw [pm_ws_push (M := M) (q := (8, NN)) (by omega) rfl (fun i hi q => pm_ce_cong (pm_up_other _ _ hi) (pm_up_other _ _ hi) (pm_up_other _ _ hi) q)]
          congr 3
          show Sum.inl (ids.1, NN, Sum.inl (va_up M.2.2.1 M.1.length (fun _ => 0) M.1.length)) = _
          rw [pm_up_same]
        exact pm_made X0 I0 hn ht k1 k2 k3 hq hcl1 hct hx00 hM00 (fun H1 locs1 I1 => kk H1 locs1 arr I1 hl)
      · obtain rfl := Nat.eq_of_beq_eq_true ha
        refine va_newa (atype := .long) hx hb (hts _ pm_arrL.1 pm_arrL.2) (ty := .long) rfl hK hP hD (pm_S_self hS) hAll (a0 := (NN, .inr (.inl (fun _ => 0)))) (fun cA => rfl) hn0 hNN (by show NN * 8 ≤ _; omega) (by omega) (by omega) hd ?_
        intro q cA H1 k0 k1 k2 k3
        have e1 : cA = ids.2.1 := by
          have f1 := (k0.2 3 (cA, .long) rfl).2
          have f2 := (hK.2 1 (ids.2.1, .long) rfl).2
          exact Option.some.inj (f1.symm.trans f2)
        subst e1
        have hq : (pm_ws b z ids (pm_new M (9, NN))) = pm_ws b z ids M ++ [(z + (M.1.length - 1), .inl (ids.2.1, NN, .inr (.inl (fun _ => 0))))] := by
          rw [pm_ws_push (M := M) (q := (9, NN)) (by omega) rfl (fun i hi q => pm_ce_cong (pm_up_other _ _ hi) (pm_up_other _ _ hi) (pm_up_other _ _ hi) q)]
          congr 3
          show Sum.inl (ids.2.1, NN, Sum.inr (Sum.inl (va_up M.2.2.2 M.1.length (fun _ => 0) M.1.length))) = _
          rw [pm_up_same]
        exact pm_made X0 I0 hn ht k1 k2 k3 hq hcl1 hct hx00 hM00 (fun H1 locs1 I1 => kk H1 locs1 arr I1 hl)
  case anewarray idx =>
    have hc := Bool.and_eq_true_iff.mp hc
    obtain rfl := Nat.eq_of_beq_eq_true hc.1
    simp only [pm_st] at h
    split at h
    case h_2 => cases h
    rename_i nI st
    by_cases hb9 : nI < 0 ∨ 100000 < nI.toNatClampNeg
    · rw [if_pos hb9] at h; cases h
    · rw [if_neg hb9] at h
      cases h
      have hn0 : ¬ nI < 0 := fun q => hb9 (Or.inl q)
      have hn1 : nI.toNatClampNeg ≤ 100000 := Nat.le_of_not_lt fun q => hb9 (Or.inr q)
      generalize hNN : nI.toNatClampNeg = NN at *
      have hct : pm_tot (pm_new M (10, NN)) = pm_tot M + NN := by simp [pm_tot, pm_new]
      have hcl1 : (pm_new M (10, NN)).1.length = M.1.length + 1 := by simp [pm_new]
      rw [hct] at hr2
      rw [hcl1] at hr1
      have hAll : ∀ q, H.size ≤ q → pm_A z q := fun q hq => by show z ≤ q; omega
      have hx00 : va_up M.2.2.1 M.1.length (fun _ => 0) 0 = M.2.2.1 0 := pm_up_other _ _ (by omega)
      have hM00 : (M.1 ++ [(10, NN)])[0]? = some (8, L) := by rw [List.getElem?_append_left (by omega)]; exact hM0
      refine va_newq hx hb hown (hwd hc.2) (va_AO.of (hts _ pm_arrO.1 pm_arrO.2)) hK hP hD (pm_S_self hS) hAll hn0 hNN (by omega) (by omega) (by omega) hd ?_
      intro q cA H1 k0 k1 k2 k3
      have e1 : cA = ids.2.2 := by
        obtain ⟨_, _, _, _, _, f1⟩ := (k0.2 3 (cA, .object RX5) rfl).2
        obtain ⟨_, _, _, _, _, f2⟩ := (hK.2 2 (ids.2.2, .object RX5) rfl).2
        exact Option.some.inj (f1.symm.trans f2)
      subst e1
      have hq : (pm_ws b z ids (pm_new M (10, NN))) = pm_ws b z ids M ++ [(z + (M.1.length - 1), .inl (ids.2.2, NN, .inr (.inr (.inr (.inr (fun _ => none))))))] := by
        rw [pm_ws_push (M := M) (q := (10, NN)) (by omega) rfl (fun i hi q => pm_ce_cong (pm_up_other _ _ hi) (pm_up_other _ _ hi) (pm_up_other _ _ hi) q)]
        congr 3
        show Sum.inl (ids.2.2, NN, Sum.inr (Sum.inr (Sum.inr (Sum.inr (fun j => (va_up M.2.1 M.1.length (fun _ => none) M.1.length j).map (pm_ad b z)))))) = _
        rw [pm_up_same]
        rfl
      exact pm_made X0 I0 hn ht k1 k2 k3 hq hcl1 hct hx00 hM00 (fun H1 locs1 I1 => kk H1 locs1 arr I1 hl)
  case invokespecial idx =>
    simp only [pm_chI, Bool.and_eq_true] at hc
    obtain ⟨hc1, hc2⟩ := hc
    obtain rfl := Nat.eq_of_beq_eq_true hc1
    simp only [pm_st] at h
    split at h
    case h_2 => cases h
    rename_i r st
    cases hz9 : (Nat.beq (a / 10) 6 && Nat.ble (pm_cs st) 8) with
    | false => rw [hz9] at h; cases h
    | true =>
      rw [hz9] at h
      cases h
      rw [Bool.and_eq_true] at hz9
      have h6 : a / 10 = 6 := Nat.eq_of_beq_eq_true hz9.1
      have hcs := Nat.le_of_ble_eq_true hz9.2
      rw [if_pos h6] at hc2
      simp only [Bool.and_eq_true] at hc2
      obtain ⟨⟨w1, w2⟩, w3⟩ := hc2
      have w2 := Nat.le_of_ble_eq_true w2
      have w3 := Nat.le_of_ble_eq_true w3
      have hcs2 := pm_cs_cv b z st1
      refine W.objInit hx hb hown (hwd w1) (hts _ pm_oi1.1 pm_oi1.2) (hts _ pm_oi2.1 pm_oi2.2) rfl (by rw [hml]; exact hl.1) rfl hd (by omega) (by show 2 * 0 + ((st1.map (pm_cv b z)).map fun v => v.category).sum + 12 ≤ _; omega) ?_
      exact kk H locs arr I0 hl
  case invokestatic idx =>
    simp only [pm_chI, Bool.and_eq_true] at hc
    obtain ⟨hc1, hc2⟩ := hc
    obtain rfl := Nat.eq_of_beq_eq_true hc1
    simp only [pm_st] at h
    split at h
    case h_6 => cases h
    case h_1 =>
      rename_i y x st
      cases hz9 : (Nat.beq (a / 10) 8 && Nat.ble (pm_cs st) 8) with
      | false => rw [hz9] at h; cases h
      | true =>
        rw [hz9] at h
        rw [Bool.and_eq_true] at hz9
        have h7 : 7 ≤ a / 10 := by have := Nat.eq_of_beq_eq_true hz9.1; omega
        have hcs := Nat.le_of_ble_eq_true hz9.2
        rw [if_pos h7] at hc2
        simp only [Bool.and_eq_true] at hc2
        obtain ⟨⟨w1, w2⟩, w3⟩ := hc2
        have w2 := Nat.le_of_ble_eq_true w2
        have w3 := Nat.le_of_ble_eq_true w3
        have hcs2 := pm_cs_cv b z st
        cases h
        exact va_mmax hx hb (by rw [hml]; exact hl.1.symm) hown (hwd w1) (hts _ pm_mw0.1.1 pm_mw0.1.2) (hts _ pm_mwi.1 pm_mwi.2) (hts _ pm_mw0.2.1 pm_mw0.2.2) (by omega) (by omega) hr1 hr2 hd (kk H locs arr I0 hl)
    case h_2 =>
      rename_i y x st
      cases hz9 : (Nat.beq (a / 10) 8 && Nat.ble (pm_cs st) 8) with
      | false => rw [hz9] at h; cases h
      | true =>
        rw [hz9] at h
        rw [Bool.and_eq_true] at hz9
        have h7 : 7 ≤ a / 10 := by have := Nat.eq_of_beq_eq_true hz9.1; omega
        have hcs := Nat.le_of_ble_eq_true hz9.2
        rw [if_pos h7] at hc2
        simp only [Bool.and_eq_true] at hc2
        obtain ⟨⟨w1, w2⟩, w3⟩ := hc2
        have w2 := Nat.le_of_ble_eq_true w2
        have w3 := Nat.le_of_ble_eq_true w3
        have hcs2 := pm_cs_cv b z st
        cases h
        exact va_mmin hx hb (by rw [hml]; exact hl.1.symm) hown (hwd w1) (hts _ pm_mw1.1.1 pm_mw1.1.2) (hts _ pm_mwi.1 pm_mwi.2) (hts _ pm_mw1.2.1 pm_mw1.2.2) (by omega) (by omega) hr1 hr2 hd (kk H locs arr I0 hl)
    case h_3 =>
      rename_i x st
      cases hz9 : (Nat.beq (a / 10) 8 && Nat.ble (pm_cs st) 8) with
      | false => rw [hz9] at h; cases h
      | true =>
        rw [hz9] at h
        rw [Bool.and_eq_true] at hz9
        have h7 : 7 ≤ a / 10 := by have := Nat.eq_of_beq_eq_true hz9.1; omega
        have hcs := Nat.le_of_ble_eq_true hz9.2
        rw [if_pos h7] at hc2
        simp only [Bool.and_eq_true] at hc2
        obtain ⟨⟨w1, w2⟩, w3⟩ := hc2
        have w2 := Nat.le_of_ble_eq_true w2
        have w3 := Nat.le_of_ble_eq_true w3
        have hcs2 := pm_cs_cv b z st
        cases h
        exact va_mabs_long hx hb (by rw [hml]; exact hl.1.symm) hown (hwd w1) (hts _ pm_mw2.1.1 pm_mw2.1.2) (hts _ pm_mwi.1 pm_mwi.2) (hts _ pm_mw2.2.1 pm_mw2.2.2) (by omega) (by omega) hr1 hr2 hd (kk H locs arr I0 hl)
    case h_4 =>
      rename_i y x st
      cases hz9 : (Nat.beq (a / 10) 8 && Nat.ble (pm_cs st) 8) with
      | false => rw [hz9] at h; cases h
      | true =>
        rw [hz9] at h
        rw [Bool.and_eq_true] at hz9
        have h7 : 7 ≤ a / 10 := by have := Nat.eq_of_beq_eq_true hz9.1; omega
        have hcs := Nat.le_of_ble_eq_true hz9.2
        rw [if_pos h7] at hc2
        simp only [Bool.and_eq_true] at hc2
        obtain ⟨⟨w1, w2⟩, w3⟩ := hc2
        have w2 := Nat.le_of_ble_eq_true w2
        have w3 := Nat.le_of_ble_eq_true w3
        have hcs2 := pm_cs_cv b z st
        cases h
        exact va_mmax_long hx hb (by rw [hml]; exact hl.1.symm) hown (hwd w1) (hts _ pm_mw3.1.1 pm_mw3.1.2) (hts _ pm_mwi.1 pm_mwi.2) (hts _ pm_mw3.2.1 pm_mw3.2.2) (by omega) (by omega) hr1 hr2 hd (kk H locs arr I0 hl)
    rename_i n dp d sp s0 st
    cases hz9 : (Nat.beq (a / 10) 7 && Nat.ble (pm_cs st) 8) with
    | false => rw [hz9] at h; cases h
    | true =>
      rw [hz9] at h
      rw [Bool.and_eq_true] at hz9
      have h7 : 7 ≤ a / 10 := by have := Nat.eq_of_beq_eq_true hz9.1; omega
      have hcs := Nat.le_of_ble_eq_true hz9.2
      rw [if_pos h7] at hc2
      simp only [Bool.and_eq_true] at hc2
      obtain ⟨⟨w1, w2⟩, w3⟩ := hc2
      have w2 := Nat.le_of_ble_eq_true w2
      have w3 := Nat.le_of_ble_eq_true w3
      have hcs2 := pm_cs_cv b z st
      simp only [Bool.not_true, pm_nz] at h
      cases hq : pm_cp M s0 sp d dp n with
      | none => rw [hq] at h; cases h
      | some M2 =>
        rw [hq] at h
        cases h
        unfold pm_cp at hq
        cases hz8 : (Nat.beq d 0 || Nat.beq s0 0) with
        | true => rw [hz8] at hq; cases hq
        | false =>
          rw [hz8] at hq
          rw [Bool.or_eq_false_iff] at hz8
          have hd0 : d ≠ 0 := fun q => by rw [q] at hz8; cases hz8.1
          have hs0 : s0 ≠ 0 := fun q => by rw [q] at hz8; cases hz8.2
          simp only [cond_false] at hq
          cases hA0 : pm_ln M 8 s0 with
          | none => rw [hA0] at hq; cases hq
          | some n0' =>
            cases hA1 : pm_ln M 8 d with
            | none => rw [hA0, hA1] at hq; cases hq
            | some n1' =>
              rw [hA0, hA1] at hq
              simp only [Option.bind_some] at hq
              have hm0 := pm_ln_iff.mp hA0
              have hm1 := pm_ln_iff.mp hA1
              by_cases hin : sp < 0 ∨ dp < 0 ∨ n < 0 ∨ n0' < sp.toNatClampNeg + n.toNatClampNeg ∨ n1' < dp.toNatClampNeg + n.toNatClampNeg
              · rw [if_pos hin] at hq; cases hq
              · rw [if_neg hin] at hq
                cases hq
                simp only [not_or] at hin
                obtain ⟨i1, i2, i3, i4, i5⟩ := hin
                generalize hM1 : (M.1, M.2.1, va_up M.2.2.1 d (va_cpy (M.2.2.1 s0) (M.2.2.1 d) sp.toNatClampNeg dp.toNatClampNeg n.toNatClampNeg), M.2.2.2) = M1 at *
                have hs1 : M1.1 = M.1 := by rw [← hM1]
                have h00 : M1.2.2.1 0 = M.2.2.1 0 := by rw [← hM1]; exact pm_up_other _ _ (Ne.symm hd0)
                have hws : pm_ws b z ids M1 = (pm_ws b z ids M).set (d - 1) (pm_ad b z d, .inl (ids.1, n1', .inl (va_cpy (M.2.2.1 s0) (M.2.2.1 d) sp.toNatClampNeg dp.toNatClampNeg n.toNatClampNeg))) := by
                  rw [pm_ws_set hm1 hd0 hs1 (fun i hi q => pm_ce_cong (by rw [← hM1]) (by rw [← hM1]; exact pm_up_other _ _ hi) (by rw [← hM1]) q)]
                  congr 2
                  rw [← hM1]
                  show Sum.inl (ids.1, n1', Sum.inl (va_up M.2.2.1 d (va_cpy (M.2.2.1 s0) (M.2.2.1 d) sp.toNatClampNeg dp.toNatClampNeg n.toNatClampNeg) d)) = _
                  rw [pm_up_same]
                refine va_copyi hx hb (by rw [hml]; exact hl.1.symm) hown (hwd w1) (hts _ pm_ac1.1 pm_ac1.2) (hts _ pm_ac2.1 pm_ac2.2) (hts _ pm_ac3.1 pm_ac3.2) hK hP hD (pm_S_self hS) (s0 - 1) (d - 1) 0 0 (pm_ws_at hm0 hs0) (pm_ws_at hm1 hd0) (ty := .int) rfl rfl rfl i1 i2 i3 (by omega) (by omega) (fun _ _ => rfl) (by omega) (by show ((st1.map (pm_cv b z)).map fun v => v.category).sum + (7 + 11) ≤ _; omega) hd ?_
                intro H1 locs1 q1 _ q3
                have q1 : va_P D pm_cl ((pm_ws b z ids M).set (d - 1) (pm_ad b z d, .inl (ids.1, n1', .inl (va_cpy (M.2.2.1 s0) (M.2.2.1 d) sp.toNatClampNeg dp.toNatClampNeg n.toNatClampNeg)))) H1 := q1
                rw [← hws] at q1
                exact pm_stored X0 I0 hn hs1 h00 q1 q3 (fun I1 => kk H1 locs1 arr I1 hl)
  all_goals (cases h)
end PmStep
