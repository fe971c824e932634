/-! the constructors: cells made, references laid, in their order -/
def fp_ol : List (Nat × Nat × Nat) := [(1, 0, 2), (3, 3, 4), (2, 0, 3), (5, 3, 6), (2, 1, 5), (7, 3, 8), (2, 2, 7), (9, 3, 10), (2, 3, 9), (11, 3, 12), (2, 4, 11), (13, 3, 14), (2, 5, 13), (15, 3, 16), (2, 6, 15), (17, 3, 18), (2, 7, 17), (19, 0, 20), (19, 1, 21), (22, 3, 23), (20, 0, 22), (24, 3, 25), (20, 1, 24), (26, 3, 27), (20, 2, 26), (28, 3, 29), (20, 3, 28), (30, 3, 31), (20, 4, 30), (32, 3, 33), (20, 5, 32), (1, 1, 19), (34, 2, 35), (34, 11, 36), (1, 2, 34), (37, 0, 38), (37, 1, 39), (1, 3, 37), (40, 3, 41), (1, 4, 40), (42, 0, 43), (42, 1, 44), (1, 5, 42), (45, 0, 46), (45, 1, 47), (45, 5, 48), (45, 6, 49), (45, 7, 50)]
theorem fp_ol_rl : ∀ q ∈ fp_rl, q ∈ fp_ol := by decide
def fp_KK (L n m : Nat) (F : Nat → Nat → Int32) (M : pm_M) : Prop := M.1 = (fp_sh L).take n ∧ (∀ q ∈ fp_ol.take m, M.2.1 q.1 q.2.1 = some q.2.2) ∧ ∀ i j, M.2.2.1 i j = F i j
section FpInit
variable {L n m : Nat} {F : Nat → Nat → Int32} {M : pm_M}
theorem fp_KK.len (h : fp_KK L n m F M) (hn : n ≤ 51) : M.1.length = n := by
  rw [h.1, List.length_take, show (fp_sh L).length = 51 from rfl]
  omega
theorem fp_KK.get (h : fp_KK L n m F M) {r : Nat} (hr : r < n) : M.1[r]? = (fp_sh L)[r]? := by
  rw [h.1, List.getElem?_take_of_lt hr]
theorem fp_KK.new {q : Nat × Nat} (h : fp_KK L n m F M) (hn : n < 51) (hq : (fp_sh L)[n]? = some q) (hs : ∀ p ∈ fp_ol.take m, p.1 < n) (hF : ∀ j, F n j = 0) : fp_KK L (n + 1) m F (pm_new M q) := by
  have hl := h.len (by omega)
  refine ⟨?_, fun p hp => ?_, fun i j => ?_⟩
  · show M.1 ++ [q] = _
    rw [List.take_succ, hq, h.1]
    rfl
  · show va_up M.2.1 M.1.length (fun _ => none) p.1 p.2.1 = _
    rw [hl, pm_up_other _ _ (show p.1 ≠ n by have := hs p hp; omega)]
    exact h.2.1 p hp
  · show va_up M.2.2.1 M.1.length (fun _ => 0) i j = _
    rw [hl]
    by_cases e : i = n
    · rw [e, pm_up_same, hF j]
    · rw [pm_up_other _ _ e]; exact h.2.2 i j
theorem fp_KK.ref {ci sz r k v : Nat} (h : fp_KK L n m F M) (hr : r < n) (hk : (fp_sh L)[r]? = some (ci, sz)) (ho : (r, k, v) ∈ fp_ol.take m) : pm_gR M ci k r = some v := fp_gR (n := sz) ((h.get hr).trans hk) (h.2.1 _ ho)
theorem fp_take_ol {m : Nat} {q : Nat × Nat × Nat} (ho : fp_ol[m]? = some q) {p : Nat × Nat × Nat} (hp : p ∈ fp_ol.take (m + 1)) : p ∈ fp_ol.take m ∨ p = q := by
  rw [List.take_succ, ho] at hp
  rcases List.mem_append.mp hp with g | g
  · exact Or.inl g
  · exact Or.inr (List.mem_singleton.mp g)
theorem fp_KK.put {ci sz r k v : Nat} (h : fp_KK L n m F M) (hr : r < n) (hk : (fp_sh L)[r]? = some (ci, sz)) (ho : fp_ol[m]? = some (r, k, v)) (hs : ∀ p ∈ fp_ol.take m, ¬ (p.1 = r ∧ p.2.1 = k)) : ∃ M', pm_pR M ci k r v = some M' ∧ fp_KK L n (m + 1) F M' := by
  refine ⟨(M.1, va_up M.2.1 r (va_up (M.2.1 r) k (some v)), M.2.2.1, M.2.2.2), ?_, h.1, fun p hp => ?_, h.2.2⟩
  · unfold pm_pR
    rw [fp_kd ((h.get hr).trans hk)]
    rfl
  · show va_up M.2.1 r (va_up (M.2.1 r) k (some v)) p.1 p.2.1 = _
    rcases fp_take_ol ho hp with g | g
    · have hne := hs p g
      by_cases e : p.1 = r
      · rw [e, pm_up_same, pm_up_other _ _ (fun e2 => hne ⟨e, e2⟩), ← e]
        exact h.2.1 p g
      · rw [pm_up_other _ _ e]; exact h.2.1 p g
    · rw [g, pm_up_same, pm_up_same]
theorem fp_KK.lay {sz sz' r t v : Nat} (h : fp_KK L n m F M) (hr : r < n) (hk : (fp_sh L)[r]? = some (10, sz)) (hv : v < n) (hk' : (fp_sh L)[v]? = some (5, sz')) (ht : t < sz) (hz : sz < 2 ^ 31) (ho : fp_ol[m]? = some (r, t, v)) (hs : ∀ p ∈ fp_ol.take m, ¬ (p.1 = r ∧ p.2.1 = t)) : ∃ M', pm_sR M r (nI t) v = some M' ∧ fp_KK L n (m + 1) F M' := by
  refine ⟨(M.1, va_up M.2.1 r (va_up (M.2.1 r) t (some v)), M.2.2.1, M.2.2.2), ?_, h.1, fun p hp => ?_, h.2.2⟩
  · unfold pm_sR
    rw [fp_kd ((h.get hv).trans hk'), cond_true, pm_ln_iff.mpr ((h.get hr).trans hk), Option.bind_some, if_neg (fp_ix ht hz), fp_cl (by omega)]
  · show va_up M.2.1 r (va_up (M.2.1 r) t (some v)) p.1 p.2.1 = _
    rcases fp_take_ol ho hp with g | g
    · have hne := hs p g
      by_cases e : p.1 = r
      · rw [e, pm_up_same, pm_up_other _ _ (fun e2 => hne ⟨e, e2⟩), ← e]
        exact h.2.1 p g
      · rw [pm_up_other _ _ e]; exact h.2.1 p g
    · rw [g, pm_up_same, pm_up_same]
theorem fp_KK.int {ci sz r k : Nat} (h : fp_KK L n m F M) (hr : r < n) (hk : (fp_sh L)[r]? = some (ci, sz)) (v : Int32) : ∃ M', pm_pI M ci k r v = some M' ∧ fp_KK L n m (fun i j => if i = r ∧ j = k then v else F i j) M' := by
  refine ⟨_, fp_pI ((h.get hr).trans hk) v, h.1, h.2.1, fun i j => ?_⟩
  show va_up M.2.2.1 r (va_up (M.2.2.1 r) k v) i j = if i = r ∧ j = k then v else F i j
  by_cases e : i = r
  · rw [e, pm_up_same]
    by_cases e2 : j = k
    · rw [e2, pm_up_same, if_pos ⟨rfl, rfl⟩]
    · rw [pm_up_other _ _ e2, if_neg (fun g => e2 g.2)]; exact h.2.2 r j
  · rw [pm_up_other _ _ e, if_neg (fun g => e g.1)]; exact h.2.2 i j
theorem c_table (h : fp_KK L n m F M) (hn : n + 1 < 51) (h1 : (fp_sh L)[n]? = some (5, 4)) (h2 : (fp_sh L)[n + 1]? = some (8, 81)) (ho : fp_ol[m]? = some (n, 3, n + 1)) (hs : ∀ p ∈ fp_ol.take m, p.1 < n) (hF : ∀ j, F n j = 0 ∧ F (n + 1) j = 0) : ∃ M', pm_C mX5_init [.ref n] (pm_new M (5, 4)) = some (.null, M') ∧ fp_KK L (n + 2) (m + 1) F M' := by
  have k1 := h.new (by omega) h1 hs (fun j => (hF j).1)
  have k2 := k1.new (by omega) h2 (fun p hp => by have := hs p hp; omega) (fun j => (hF j).2)
  obtain ⟨M', p1, p2⟩ := k2.put (show n < n + 1 + 1 by omega) h1 ho (fun p hp g => by have := hs p hp; omega)
  refine ⟨M', ?_, p2⟩
  rw [e_X5_init, k1.len (by omega), p1]
  rfl
theorem fp_ol_t : ∀ t, t < 8 → fp_ol[1 + 2 * t]? = some (3 + 2 * t, 3, 3 + 2 * t + 1) ∧ fp_ol[1 + 2 * t + 1]? = some (2, t, 3 + 2 * t) ∧ (∀ p ∈ fp_ol.take (1 + 2 * t), p.1 < 3 + 2 * t) ∧ (∀ p ∈ fp_ol.take (1 + 2 * t + 1), ¬ (p.1 = 2 ∧ p.2.1 = t)) ∧ (1, 0, 2) ∈ fp_ol.take (1 + 2 * t) := by
  intro t ht
  rcases (by omega : t = 0 ∨ t = 1 ∨ t = 2 ∨ t = 3 ∨ t = 4 ∨ t = 5 ∨ t = 6 ∨ t = 7) with rfl | rfl | rfl | rfl | rfl | rfl | rfl | rfl <;> exact ⟨rfl, rfl, by decide, by decide, by decide⟩
theorem fp_ol_h : ∀ t, t < 6 → fp_ol[19 + 2 * t]? = some (22 + 2 * t, 3, 22 + 2 * t + 1) ∧ fp_ol[19 + 2 * t + 1]? = some (20, t, 22 + 2 * t) ∧ (∀ p ∈ fp_ol.take (19 + 2 * t), p.1 < 22 + 2 * t) ∧ (∀ p ∈ fp_ol.take (19 + 2 * t + 1), ¬ (p.1 = 20 ∧ p.2.1 = t)) ∧ (19, 0, 20) ∈ fp_ol.take (19 + 2 * t) := by
  intro t ht
  rcases (by omega : t = 0 ∨ t = 1 ∨ t = 2 ∨ t = 3 ∨ t = 4 ∨ t = 5) with rfl | rfl | rfl | rfl | rfl | rfl <;> exact ⟨rfl, rfl, by decide, by decide, by decide⟩
theorem c_initT (h : fp_KK L 3 1 F M) (hF : ∀ i j, i ≠ 0 → F i j = 0) : ∃ M', pm_res mX6_init 15 [(0, .ref 1), (1, .int 0)] [] M = pm_res mX6_init 15 [(0, .ref 1), (1, .int (nI 8))] [] M' ∧ fp_KK L 19 17 F M' := by
  obtain ⟨M', p, e⟩ := fp_li0 (fun t (M : pm_M) => pm_res mX6_init 15 [(0, .ref 1), (1, .int (nI t))] [] M) (fun t M => fp_KK L (3 + 2 * t) (1 + 2 * t) F M) 8 (fun t M ht k => by
    obtain ⟨o1, o2, o3, o4, o5⟩ := fp_ol_t t ht
    have sh := fp_tb_sh (L := L) (tb_t ht)
    have k0 := k.new (show 3 + 2 * t < 51 by omega) sh.1 o3 (fun j => hF _ _ (by omega))
    obtain ⟨M1, p1, k1⟩ := c_table k (by omega) sh.1 sh.2 o1 o3 (fun j => ⟨hF _ _ (by omega), hF _ _ (by omega)⟩)
    obtain ⟨M2, p2, k2⟩ := k1.lay (sz := 8) (sz' := 4) (r := 2) (t := t) (v := 3 + 2 * t) (by omega) rfl (by omega) sh.1 ht (by decide) o2 o4
    refine ⟨M2, k2, ?_⟩
    rw [e_X6_init_15, if_neg (fp_ge ht (by decide)), k.ref (sz := 6) (by omega) rfl o5, Option.bind_some, k.len (by omega), fp_kd (M := pm_new M (5, 4)) (n := 4) ((k0.get (by omega)).trans sh.1), cond_true, p1, fp_oV', Option.bind_some, p2, Option.bind_some, nI_1]) (s := M) h
  exact ⟨M', e, p⟩
theorem c_initH (h : fp_KK L 20 17 F M) (hF : ∀ i j, i ≠ 0 → F i j = 0) : ∃ M', pm_C mX2_init [.ref 19] M = some (.null, M') ∧ fp_KK L 34 31 F M' := by
  have k1 := h.new (q := (10, 6)) (by decide) rfl (by decide) (fun j => hF _ _ (by decide))
  obtain ⟨M2, p2, k2⟩ := k1.put (ci := 2) (sz := 4) (r := 19) (k := 0) (v := 20) (by decide) rfl (by decide) (by decide)
  have k3 := k2.new (q := (8, 6)) (by decide) rfl (by decide) (fun j => hF _ _ (by decide))
  obtain ⟨M4, p4, k4⟩ := k3.put (ci := 2) (sz := 4) (r := 19) (k := 1) (v := 21) (by decide) rfl (by decide) (by decide)
  obtain ⟨M', p, e⟩ := fp_li0 (fun t (M : pm_M) => pm_res mX2_init 23 [(0, .ref 19), (1, .int (nI t))] [] M) (fun t M => fp_KK L (22 + 2 * t) (19 + 2 * t) F M) 6 (fun t M ht k => by
    obtain ⟨o1, o2, o3, o4, o5⟩ := fp_ol_h t ht
    have sh := fp_tb_sh (L := L) (tb_k ht)
    have k0 := k.new (show 22 + 2 * t < 51 by omega) sh.1 o3 (fun j => hF _ _ (by omega))
    obtain ⟨M1, p1, k1⟩ := c_table k (by omega) sh.1 sh.2 o1 o3 (fun j => ⟨hF _ _ (by omega), hF _ _ (by omega)⟩)
    obtain ⟨M2, p2, k2⟩ := k1.lay (sz := 6) (sz' := 4) (r := 20) (t := t) (v := 22 + 2 * t) (by omega) rfl (by omega) sh.1 ht (by decide) o2 o4
    refine ⟨M2, k2, ?_⟩
    rw [e_X2_init_23, if_neg (fp_ge ht (by decide)), k.ref (ci := 2) (sz := 4) (by omega) rfl o5, Option.bind_some, k.len (by omega), fp_kd (M := pm_new M (5, 4)) (n := 4) ((k0.get (by omega)).trans sh.1), cond_true, p1, fp_oV', Option.bind_some, p2, Option.bind_some, nI_1]) (s := M4) k4
  refine ⟨M', ?_, p⟩
  rw [e_X2_init, h.len (by decide), p2, Option.bind_some, k2.len (by decide), p4, Option.bind_some]
  refine (show pm_res mX2_init 23 [(0, .ref 19), (1, .int 0)] [] M4 = _ from e).trans ?_
  rw [e_X2_init_23, if_pos (fp_le (Nat.le_refl _) (by decide))]
def fp_F1 (F : Nat → Nat → Int32) : Nat → Nat → Int32 := fun i j => if i = 34 ∧ j = 1 then 2 else (if i = 34 ∧ j = 0 then 2 else F i j)
theorem fp_F1_0 {F : Nat → Nat → Int32} (hF : ∀ i j, i ≠ 0 → F i j = 0) {i : Nat} (h0 : i ≠ 0) (h : i ≠ 34) (j : Nat) : fp_F1 F i j = 0 := by
  unfold fp_F1
  rw [if_neg (fun g => h g.1), if_neg (fun g => h g.1)]
  exact hF i j h0
theorem c_initC (h : fp_KK L 2 0 F M) (hF : ∀ i j, i ≠ 0 → F i j = 0) : ∃ M', pm_C mX6_init [.ref 1] M = some (.null, M') ∧ fp_KK L 45 43 (fp_F1 F) M' := by
  have k1 := h.new (q := (10, 8)) (by decide) rfl (by decide) (fun j => hF _ _ (by decide))
  obtain ⟨M2, p2, k2⟩ := k1.put (ci := 6) (sz := 6) (r := 1) (k := 0) (v := 2) (by decide) rfl (by decide) (by decide)
  obtain ⟨M3, p3, k3⟩ := c_initT k2 hF
  -- History
  have k4 := k3.new (q := (2, 4)) (by decide) rfl (by decide) (fun j => hF _ _ (by decide))
  obtain ⟨M5, p5, k5⟩ := c_initH k4 hF
  obtain ⟨M6, p6, k6⟩ := k5.put (ci := 6) (sz := 6) (r := 1) (k := 1) (v := 19) (by decide) rfl (by decide) (by decide)
  -- Law
  have k7 := k6.new (q := (3, 12)) (by decide) rfl (by decide) (fun j => hF _ _ (by decide))
  obtain ⟨M8, p8, k8⟩ := k7.int (ci := 3) (sz := 12) (r := 34) (k := 0) (by decide) rfl 2
  obtain ⟨M9, p9, k9⟩ := k8.int (ci := 3) (sz := 12) (r := 34) (k := 1) (by decide) rfl 2
  have k9 : fp_KK L 35 32 (fp_F1 F) M9 := k9
  have k10 := k9.new (q := (8, 81)) (by decide) rfl (by decide) (fp_F1_0 hF (by decide) (by decide))
  obtain ⟨M11, p11, k11⟩ := k10.put (ci := 3) (sz := 12) (r := 34) (k := 2) (v := 35) (by decide) rfl (by decide) (by decide)
  have k12 := k11.new (q := (8, 3)) (by decide) rfl (by decide) (fp_F1_0 hF (by decide) (by decide))
  obtain ⟨M13, p13, k13⟩ := k12.put (ci := 3) (sz := 12) (r := 34) (k := 11) (v := 36) (by decide) rfl (by decide) (by decide)
  have q3 : pm_C mX3_init [.ref 34] (pm_new M6 (3, 12)) = some (.null, M13) := by
    rw [e_X3_init, p8, Option.bind_some, p9, Option.bind_some, k9.len (by decide), p11, Option.bind_some, k11.len (by decide), p13]
    rfl
  obtain ⟨M14, p14, k14⟩ := k13.put (ci := 6) (sz := 6) (r := 1) (k := 2) (v := 34) (by decide) rfl (by decide) (by decide)
  -- Shares
  have k15 := k14.new (q := (4, 3)) (by decide) rfl (by decide) (fp_F1_0 hF (by decide) (by decide))
  have k16 := k15.new (q := (8, 30)) (by decide) rfl (by decide) (fp_F1_0 hF (by decide) (by decide))
  obtain ⟨M17, p17, k17⟩ := k16.put (ci := 4) (sz := 3) (r := 37) (k := 0) (v := 38) (by decide) rfl (by decide) (by decide)
  have k18 := k17.new (q := (8, 30)) (by decide) rfl (by decide) (fp_F1_0 hF (by decide) (by decide))
  obtain ⟨M19, p19, k19⟩ := k18.put (ci := 4) (sz := 3) (r := 37) (k := 1) (v := 39) (by decide) rfl (by decide) (by decide)
  have q4 : pm_C mX4_init [.ref 37] (pm_new M14 (4, 3)) = some (.null, M19) := by
    rw [e_X4_init, k15.len (by decide), p17, Option.bind_some, k17.len (by decide), p19]
    rfl
  obtain ⟨M20, p20, k20⟩ := k19.put (ci := 6) (sz := 6) (r := 1) (k := 3) (v := 37) (by decide) rfl (by decide) (by decide)
  -- Draft
  have k21 := k20.new (q := (1, 4)) (by decide) rfl (by decide) (fp_F1_0 hF (by decide) (by decide))
  have k22 := k21.new (q := (9, 81)) (by decide) rfl (by decide) (fp_F1_0 hF (by decide) (by decide))
  obtain ⟨M23, p23, k23⟩ := k22.put (ci := 1) (sz := 4) (r := 40) (k := 3) (v := 41) (by decide) rfl (by decide) (by decide)
  have q1 : pm_C mX1_init [.ref 40] (pm_new M20 (1, 4)) = some (.null, M23) := by
    rw [e_X1_init, k21.len (by decide), p23]
    rfl
  obtain ⟨M24, p24, k24⟩ := k23.put (ci := 6) (sz := 6) (r := 1) (k := 4) (v := 40) (by decide) rfl (by decide) (by decide)
  -- DoublePlay
  have k25 := k24.new (q := (0, 2)) (by decide) rfl (by decide) (fp_F1_0 hF (by decide) (by decide))
  have k26 := k25.new (q := (8, 256)) (by decide) rfl (by decide) (fp_F1_0 hF (by decide) (by decide))
  obtain ⟨M27, p27, k27⟩ := k26.put (ci := 0) (sz := 2) (r := 42) (k := 0) (v := 43) (by decide) rfl (by decide) (by decide)
  have k28 := k27.new (q := (8, 256)) (by decide) rfl (by decide) (fp_F1_0 hF (by decide) (by decide))
  obtain ⟨M29, p29, k29⟩ := k28.put (ci := 0) (sz := 2) (r := 42) (k := 1) (v := 44) (by decide) rfl (by decide) (by decide)
  have q0 : pm_C mX0_init [.ref 42] (pm_new M24 (0, 2)) = some (.null, M29) := by
    rw [e_X0_init, k25.len (by decide), p27, Option.bind_some, k27.len (by decide), p29]
    rfl
  obtain ⟨M30, p30, k30⟩ := k29.put (ci := 6) (sz := 6) (r := 1) (k := 5) (v := 42) (by decide) rfl (by decide) (by decide)
  refine ⟨M30, ?_, k30⟩
  rw [e_X6_init, h.len (by decide), p2, Option.bind_some, p3, e_X6_init_15, if_pos (fp_le (Nat.le_refl _) (by decide)), k3.len (by decide), fp_kd (M := pm_new M3 (2, 4)) (n := 4) (k4.get (by decide)), cond_true, p5, fp_oV', Option.bind_some, p6, Option.bind_some, k6.len (by decide), fp_kd (M := pm_new M6 (3, 12)) (n := 12) (k7.get (by decide)), cond_true, q3, fp_oV', Option.bind_some, p14, Option.bind_some, k14.len (by decide), fp_kd (M := pm_new M14 (4, 3)) (n := 3) (k15.get (by decide)), cond_true, q4, fp_oV', Option.bind_some, p20, Option.bind_some, k20.len (by decide), fp_kd (M := pm_new M20 (1, 4)) (n := 4) (k21.get (by decide)), cond_true, q1, fp_oV', Option.bind_some, p24, Option.bind_some, k24.len (by decide), fp_kd (M := pm_new M24 (0, 2)) (n := 2) (k25.get (by decide)), cond_true, q0, fp_oV', Option.bind_some, p30]
  rfl
def fp_F2 (F : Nat → Nat → Int32) : Nat → Nat → Int32 := fun i j => if i = 45 ∧ j = 2 then 0 else (if i = 45 ∧ j = 4 then 2 else (if i = 45 ∧ j = 3 then 2 else F i j))
theorem c_initR {G : Nat → Nat → Int32} (h : fp_KK L 46 43 G M) (hG : ∀ i j, 45 ≤ i → G i j = 0) : ∃ M', pm_C mX7_init [.ref 45] M = some (.null, M') ∧ fp_KK L 51 48 (fp_F2 G) M' := by
  have k1 := h.new (q := (8, 672)) (by decide) rfl (by decide) (fun j => hG _ _ (by decide))
  obtain ⟨M2, p2, k2⟩ := k1.put (ci := 7) (sz := 9) (r := 45) (k := 0) (v := 46) (by decide) rfl (by decide) (by decide)
  have k3 := k2.new (q := (8, 4032)) (by decide) rfl (by decide) (fun j => hG _ _ (by decide))
  obtain ⟨M4, p4, k4⟩ := k3.put (ci := 7) (sz := 9) (r := 45) (k := 1) (v := 47) (by decide) rfl (by decide) (by decide)
  obtain ⟨M5, p5, k5⟩ := k4.int (ci := 7) (sz := 9) (r := 45) (k := 3) (by decide) rfl 2
  obtain ⟨M6, p6, k6⟩ := k5.int (ci := 7) (sz := 9) (r := 45) (k := 4) (by decide) rfl 2
  have z : ∀ i j, 46 ≤ i → (fun i j => if i = 45 ∧ j = 4 then (2 : Int32) else (fun i j => if i = 45 ∧ j = 3 then 2 else G i j) i j) i j = 0 := fun i j hi => by
    dsimp only
    rw [if_neg (by omega), if_neg (by omega)]
    exact hG i j (by omega)
  have k7 := k6.new (q := (8, 81)) (by decide) rfl (by decide) (fun j => z _ _ (by decide))
  obtain ⟨M8, p8, k8⟩ := k7.put (ci := 7) (sz := 9) (r := 45) (k := 5) (v := 48) (by decide) rfl (by decide) (by decide)
  have k9 := k8.new (q := (8, 729)) (by decide) rfl (by decide) (fun j => z _ _ (by decide))
  obtain ⟨M10, p10, k10⟩ := k9.put (ci := 7) (sz := 9) (r := 45) (k := 6) (v := 49) (by decide) rfl (by decide) (by decide)
  have k11 := k10.new (q := (9, 81)) (by decide) rfl (by decide) (fun j => z _ _ (by decide))
  obtain ⟨M12, p12, k12⟩ := k11.put (ci := 7) (sz := 9) (r := 45) (k := 7) (v := 50) (by decide) rfl (by decide) (by decide)
  obtain ⟨M13, p13, k13⟩ := k12.int (ci := 7) (sz := 9) (r := 45) (k := 2) (by decide) rfl 0
  refine ⟨M13, ?_, k13⟩
  rw [e_X7_init, h.len (by decide), p2, Option.bind_some, k2.len (by decide), p4, Option.bind_some, p5, Option.bind_some, p6, Option.bind_some, k6.len (by decide), p8, Option.bind_some, k8.len (by decide), p10, Option.bind_some, k10.len (by decide), p12, Option.bind_some, p13]
  rfl
/-- both made: the layout, and the first state on both sides -/
def fp_S0 : fp_S := (fun _ => (0, 0, 0, fun _ => 0), [], 2, 2, fun _ => 0, fun _ => 0)
theorem fp_S0_ok : fp_ok fp_S0 := ⟨fun _ _ => fp_okT_0, ⟨by decide, fun p hp => by cases hp⟩, ⟨by decide, by decide, by decide, by decide, fun _ => ⟨by show (-1000 : Int) ≤ 0; decide, by show (0 : Int) ≤ 1000; decide⟩, fun _ _ => rfl⟩, fun _ => Nat.zero_le _, fun _ _ => rfl⟩
theorem fp_made (L : Nat) (xs : Nat → Int32) : ∃ (m1 : pm_M) (R : Nat → Nat → Option Nat) (I : Nat → Nat → Int32) (J : Nat → Nat → Int64), pm_C mX6_init [.ref 1] (pm_new (pm_M0 L xs) (6, 6)) = some (.null, m1) ∧ m1.1.length = 45 ∧ pm_kd (pm_new m1 (7, 9)) 7 45 = true ∧ pm_C mX7_init [.ref 45] (pm_new m1 (7, 9)) = some (.null, fp_m L R I J) ∧ fp_RK R ∧ fp_CR fp_S0 I ∧ fp_MR fp_S0 I ∧ I 0 = xs := by
  have k0 : fp_KK L 1 0 (fun i j => if i = 0 then xs j else 0) (pm_M0 L xs) := ⟨rfl, fun q hq => absurd hq List.not_mem_nil, fun _ _ => rfl⟩
  have hF : ∀ i j, i ≠ 0 → (fun i j => if i = 0 then xs j else (0 : Int32)) i j = 0 := fun i j hi => if_neg hi
  have k1 := k0.new (q := (6, 6)) (by decide) rfl (by decide) (fun j => hF _ _ (by decide))
  obtain ⟨m1, p1, k2⟩ := c_initC k1 hF
  have hG : ∀ i j, 45 ≤ i → fp_F1 (fun i j => if i = 0 then xs j else (0 : Int32)) i j = 0 := fun i j hi => fp_F1_0 hF (by omega) (by omega) j
  have k3 := k2.new (q := (7, 9)) (by decide) rfl (by decide) (fun j => hG _ _ (by decide))
  obtain ⟨⟨sh, R, I, J⟩, p4, k4, k5, k6⟩ := c_initR k3 hG
  have k4 : sh = (fp_sh L).take 51 := k4
  rw [show (fp_sh L).take 51 = fp_sh L from rfl] at k4
  subst k4
  have z : ∀ i j, i ≠ 0 → i ≠ 34 → i ≠ 45 → I i j = 0 := fun i j h1 h2 h3 => by
    refine (k6 i j).trans ?_
    unfold fp_F2
    rw [if_neg (fun g => h3 g.1), if_neg (fun g => h3 g.1), if_neg (fun g => h3 g.1)]
    exact fp_F1_0 hF h1 h2 j
  refine ⟨m1, R, I, J, p1, k2.len (by decide), fp_kd (n := 9) (k3.get (by decide)), p4, fun q hq => k5 q (fp_ol_rl q hq), ?_, ?_, ?_⟩
  · refine ⟨fun t ht => ⟨z _ _ (by omega) (by omega) (by omega), z _ _ (by omega) (by omega) (by omega), z _ _ (by omega) (by omega) (by omega), fun j hj => z _ _ (by omega) (by omega) (by omega)⟩, ⟨0, by decide, z _ _ (by decide) (by decide) (by decide), z _ _ (by decide) (by decide) (by decide), fun j p hp => by cases hp⟩, ⟨k6 34 0, k6 34 1, fun k hk => z _ _ (by decide) (by decide) (by decide)⟩, fp_shC_0 (z _ _ (by decide) (by decide) (by decide))⟩
  · refine ⟨fun i hi => ?_, ⟨k6 45 2, fun j hj => absurd hj (Nat.not_lt_zero j)⟩, ⟨k6 45 3, k6 45 4, fun k hk => z _ _ (by decide) (by decide) (by decide)⟩, fun n hn => z _ _ (by decide) (by decide) (by decide)⟩
    rw [z _ _ (by decide) (by decide) (by decide)]
    unfold fp_flat fp_S0
    dsimp only
    split
    · rfl
    · split
      · rfl
      · split <;> rfl
  · funext j
    exact k6 0 j
end FpInit
