/-! SINGLE WORDS of the tables -/
theorem pm_cl_in : pm_cl.all (fun q => (u_ws q.1 q.2.1 q.2.2).all (fun w => decide (w ∈ lw_tbl))) = true := by decide +kernel
theorem pm_cl_ii : pm_cl.all (fun q => decide (Cond.instantiable q.1 q.2.2 ∈ lw_tbl) && decide (Cond.initialized q.1 ∈ lw_tbl)) = true := by decide +kernel
theorem pm_inst {a : Nat} {C : String} {T : u_T} {N : Nat} (h : pm_cl[a]? = some (C, T, N)) : Cond.instantiable C N ∈ lw_tbl ∧ pm_need (.instantiable C N) = true := by
  have h1 := List.all_eq_true.mp pm_cl_ii _ (List.mem_of_getElem? h)
  rw [Bool.and_eq_true, decide_eq_true_eq] at h1
  exact ⟨h1.1, rfl⟩
theorem pm_inid {a : Nat} {C : String} {T : u_T} {N : Nat} (h : pm_cl[a]? = some (C, T, N)) : Cond.initialized C ∈ lw_tbl ∧ pm_need (.initialized C) = true := by
  have h1 := List.all_eq_true.mp pm_cl_ii _ (List.mem_of_getElem? h)
  rw [Bool.and_eq_true, decide_eq_true_eq, decide_eq_true_eq] at h1
  exact ⟨h1.2, rfl⟩
theorem pm_arrI : Cond.arrayClass .int ∈ lw_tbl ∧ pm_need (.arrayClass .int) = true := ⟨by decide +kernel, rfl⟩
theorem pm_arrL : Cond.arrayClass .long ∈ lw_tbl ∧ pm_need (.arrayClass .long) = true := ⟨by decide +kernel, rfl⟩
theorem pm_arrO : Cond.arrayOver (.object RX5) ∈ lw_tbl ∧ pm_need (.arrayOver (.object RX5)) = true := ⟨by decide +kernel, rfl⟩
theorem pm_oi1 : Cond.instanceMethod objectInit ∈ lw_tbl ∧ pm_need (.instanceMethod objectInit) = true := ⟨by decide +kernel, rfl⟩
set_option maxRecDepth 100000 in
theorem pm_oi2 : Cond.code objectInit ⟨#[0xb1]⟩ 1 none ∈ lw_tbl ∧ pm_need (.code objectInit ⟨#[0xb1]⟩ 1 none) = true := ⟨List.mem_of_getElem? (i := 69) (by decide +kernel), rfl⟩
theorem pm_ac1 : Cond.native arraycopyName ∈ lw_tbl ∧ pm_need (.native arraycopyName) = true := ⟨by decide +kernel, rfl⟩
theorem pm_ac2 : Cond.static arraycopyName ∈ lw_tbl ∧ pm_need (.static arraycopyName) = true := ⟨by decide +kernel, rfl⟩
theorem pm_ac3 : Cond.initialized "java/lang/System" ∈ lw_tbl ∧ pm_need (.initialized "java/lang/System") = true := ⟨by decide +kernel, rfl⟩
set_option maxRecDepth 100000 in
theorem pm_mw0 : (Cond.static Lib.Math.max.name ∈ lw_tbl ∧ pm_need (.static Lib.Math.max.name) = true) ∧ (Cond.code Lib.Math.max.name Lib.Math.max.code 2 (some .int) ∈ lw_tbl ∧ pm_need (.code Lib.Math.max.name Lib.Math.max.code 2 (some .int)) = true) := ⟨⟨by decide +kernel, rfl⟩, List.mem_of_getElem? (i := 619) (by decide +kernel), rfl⟩
set_option maxRecDepth 100000 in
theorem pm_mw1 : (Cond.static Lib.Math.min.name ∈ lw_tbl ∧ pm_need (.static Lib.Math.min.name) = true) ∧ (Cond.code Lib.Math.min.name Lib.Math.min.code 2 (some .int) ∈ lw_tbl ∧ pm_need (.code Lib.Math.min.name Lib.Math.min.code 2 (some .int)) = true) := ⟨⟨by decide +kernel, rfl⟩, List.mem_of_getElem? (i := 279) (by decide +kernel), rfl⟩
set_option maxRecDepth 100000 in
theorem pm_mw2 : (Cond.static Lib.MathLoose.abs_long.x ∈ lw_tbl ∧ pm_need (.static Lib.MathLoose.abs_long.x) = true) ∧ (Cond.code Lib.MathLoose.abs_long.x Lib.MathLoose.abs_long.code 2 (some .long) ∈ lw_tbl ∧ pm_need (.code Lib.MathLoose.abs_long.x Lib.MathLoose.abs_long.code 2 (some .long)) = true) := ⟨⟨by decide +kernel, rfl⟩, List.mem_of_getElem? (i := 505) (by decide +kernel), rfl⟩
set_option maxRecDepth 100000 in
theorem pm_mw3 : (Cond.static Lib.MathLoose.max_long.x ∈ lw_tbl ∧ pm_need (.static Lib.MathLoose.max_long.x) = true) ∧ (Cond.code Lib.MathLoose.max_long.x Lib.MathLoose.max_long.code 4 (some .long) ∈ lw_tbl ∧ pm_need (.code Lib.MathLoose.max_long.x Lib.MathLoose.max_long.code 4 (some .long)) = true) := ⟨⟨by decide +kernel, rfl⟩, List.mem_of_getElem? (i := 508) (by decide +kernel), rfl⟩
theorem pm_mwi : Cond.initialized "java/lang/Math" ∈ lw_tbl ∧ pm_need (.initialized "java/lang/Math") = true := ⟨by decide +kernel, rfl⟩
