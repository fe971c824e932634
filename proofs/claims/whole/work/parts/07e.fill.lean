/-! Arrays.fill, copies, restarts -/
section FpFill
variable {L : Nat} {R : Nat → Nat → Option Nat} {I : Nat → Nat → Int32} {J : Nat → Nat → Int64}
theorem c_fillI {M : pm_M} {r n : Nat} (h : M.1[r]? = some (8, n)) (hr : r ≠ 0) (hn : n < 2 ^ 31) (v : Int32) : pm_C mJ7_fill_53178 [.ref r, .int v] M = some (.null, (M.1, M.2.1, va_up M.2.2.1 r (fun j => if j < n then v else M.2.2.1 r j), M.2.2.2)) := by
  have hal : pm_al M r = some (nI n) := by unfold pm_al; rw [h]; rfl
  rw [e_J7_fill_53178, hal]
  simp only [Option.bind_some]
  have key := fp_lp0 (fun i => pm_res mJ7_fill_53178 5 [(0, .ref r), (1, .int v), (2, .int (nI i)), (3, .int (nI n))] [] (M.1, M.2.1, va_up M.2.2.1 r (fun j => if j < i then v else M.2.2.1 r j), M.2.2.2)) n (fun i hi => by
    rw [e_J7_fill_53178_5, if_neg (nI_ge hi (by omega))]
    rw [fp_sI (M := (M.1, M.2.1, va_up M.2.2.1 r (fun j => if j < i then v else M.2.2.1 r j), M.2.2.2)) h hr hi hn, Option.bind_some, nI_1]
    simp only [pm_up_same, bx_uu]
    rw [fp_fs (fun _ => v) (M.2.2.1 r) i])
  rw [fp_fs0 (fun _ => v) (M.2.2.1 r), fp_ups] at key
  rw [show (0 : Int32) = nI 0 from rfl]
  refine key.trans ?_
  rw [e_J7_fill_53178_5, if_pos (nI_le (Nat.le_refl _) hn)]
theorem c_fillL {M : pm_M} {r n : Nat} (h : M.1[r]? = some (9, n)) (hn : n < 2 ^ 31) (v : Int64) : pm_C mJ7_fill_d0a16 [.ref r, .long v] M = some (.null, (M.1, M.2.1, M.2.2.1, va_up M.2.2.2 r (fun j => if j < n then v else M.2.2.2 r j))) := by
  have hal : pm_al M r = some (nI n) := by unfold pm_al; rw [h]; rfl
  rw [e_J7_fill_d0a16, hal]
  simp only [Option.bind_some]
  have key := fp_lp0 (fun i => pm_res mJ7_fill_d0a16 6 [(0, .ref r), (1, .long v), (3, .int (nI i)), (4, .int (nI n))] [] (M.1, M.2.1, M.2.2.1, va_up M.2.2.2 r (fun j => if j < i then v else M.2.2.2 r j))) n (fun i hi => by
    rw [e_J7_fill_d0a16_6, if_neg (nI_ge hi (by omega))]
    rw [fp_sL (M := (M.1, M.2.1, M.2.2.1, va_up M.2.2.2 r (fun j => if j < i then v else M.2.2.2 r j))) h hi hn, Option.bind_some, nI_1]
    simp only [pm_up_same, bx_uu]
    rw [fp_fs (fun _ => v) (M.2.2.2 r) i])
  rw [fp_fs0 (fun _ => v) (M.2.2.2 r), fp_ups] at key
  rw [show (0 : Int32) = nI 0 from rfl]
  refine key.trans ?_
  rw [e_J7_fill_d0a16_6, if_pos (nI_le (Nat.le_refl _) hn)]
/-- a table begun anew -/
theorem c_restart (hR : fp_RK R) {r : Nat} (hr : fp_tb r) (q a w : Nat) : ∃ I', pm_C mX5_restart [.ref r, .int (nI q), .int (nI a), .int (nI w)] (fp_m L R I J) = some (.null, fp_m L R I' J) ∧ fp_at I' r (q, a, w, fun _ => 0) ∧ ∀ i, i ≠ r → i ≠ r + 1 → I' i = I i := by
  rw [e_X5_restart]
  simp only [pi_T hr, Option.bind_some, gr_T hR hr]
  rw [c_fillI (M := fp_m L R _ J) (n := 81) (fp_tb_sh hr).2 (by omega) (by decide), fp_oV']
  simp only [Option.bind_some, pm_up_same, bx_uu]
  refine ⟨_, rfl, ⟨?_, ?_, ?_, fun j hj => ?_⟩, fun i h1 h2 => ?_⟩
  · simp [va_up]
  · simp [va_up]
  · simp [va_up]
  · simp [va_up, hj]; rfl
  · simp [va_up, h1, h2]
/-- a table copied -/
theorem c_copyFrom (hR : fp_RK R) {r r2 : Nat} (hr : fp_tb r) (hr2 : fp_tb r2) (hne : r ≠ r2) (hne1 : r + 1 ≠ r2) (hne2 : r ≠ r2 + 1) {T : fp_T} (hT : fp_at I r2 T) : ∃ I', pm_C mX5_copyFrom [.ref r, .ref r2] (fp_m L R I J) = some (.null, fp_m L R I' J) ∧ fp_at I' r T ∧ ∀ i, i ≠ r → i ≠ r + 1 → I' i = I i := by
  rw [e_X5_copyFrom]
  simp only [gi_T hr2, pi_T hr, Option.bind_some, gr_T hR hr, gr_T hR hr2]
  have hcp : ∀ I0 : Nat → Nat → Int32, pm_cp (fp_m L R I0 J) (r2 + 1) 0 (r + 1) 0 81 = some (fp_m L R (va_up I0 (r + 1) (va_cpy (I0 (r2 + 1)) (I0 (r + 1)) 0 0 81)) J) := by
    intro I0
    unfold pm_cp
    rw [show (Nat.beq (r + 1) 0 || Nat.beq (r2 + 1) 0) = false from rfl]
    simp only [cond_false]
    rw [pm_ln_iff.mpr (show (fp_m L R I0 J).1[r2 + 1]? = some (8, 81) from (fp_tb_sh hr2).2), pm_ln_iff.mpr (show (fp_m L R I0 J).1[r + 1]? = some (8, 81) from (fp_tb_sh hr).2)]
    rfl
  rw [hcp]
  simp only [Option.bind_some]
  obtain ⟨h0, h1, h2, h3⟩ := hT
  refine ⟨_, rfl, ⟨?_, ?_, ?_, fun j hj => ?_⟩, fun i g1 g2 => ?_⟩
  · simp [va_up, Ne.symm hne, h0]
  · simp [va_up, Ne.symm hne, h1]
  · simp [va_up, Ne.symm hne, h2]
  · simp [va_up, va_cpy, hj, Ne.symm hne2]; exact h3 j hj
  · simp [va_up, g1, g2]
end FpFill
