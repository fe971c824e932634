section FpCells
variable {L : Nat} {R : Nat → Nat → Option Nat} {I : Nat → Nat → Int32} {J : Nat → Nat → Int64}
theorem k_1 : pm_kd (fp_m L R I J) 6 1 = true := rfl
theorem gi_1 (k : Nat) : pm_gI (fp_m L R I J) 6 k 1 = some (I 1 k) := rfl
theorem gl_1 (k : Nat) : pm_gL (fp_m L R I J) 6 k 1 = some (J 1 k) := rfl
theorem pi_1 (k : Nat) (v : Int32) : pm_pI (fp_m L R I J) 6 k 1 v = some (fp_m L R (va_up I 1 (va_up (I 1) k v)) J) := rfl
theorem pl_1 (k : Nat) (v : Int64) : pm_pL (fp_m L R I J) 6 k 1 v = some (fp_m L R I (va_up J 1 (va_up (J 1) k v))) := rfl
theorem k_19 : pm_kd (fp_m L R I J) 2 19 = true := rfl
theorem gi_19 (k : Nat) : pm_gI (fp_m L R I J) 2 k 19 = some (I 19 k) := rfl
theorem gl_19 (k : Nat) : pm_gL (fp_m L R I J) 2 k 19 = some (J 19 k) := rfl
theorem pi_19 (k : Nat) (v : Int32) : pm_pI (fp_m L R I J) 2 k 19 v = some (fp_m L R (va_up I 19 (va_up (I 19) k v)) J) := rfl
theorem pl_19 (k : Nat) (v : Int64) : pm_pL (fp_m L R I J) 2 k 19 v = some (fp_m L R I (va_up J 19 (va_up (J 19) k v))) := rfl
theorem k_34 : pm_kd (fp_m L R I J) 3 34 = true := rfl
theorem gi_34 (k : Nat) : pm_gI (fp_m L R I J) 3 k 34 = some (I 34 k) := rfl
theorem gl_34 (k : Nat) : pm_gL (fp_m L R I J) 3 k 34 = some (J 34 k) := rfl
theorem pi_34 (k : Nat) (v : Int32) : pm_pI (fp_m L R I J) 3 k 34 v = some (fp_m L R (va_up I 34 (va_up (I 34) k v)) J) := rfl
theorem pl_34 (k : Nat) (v : Int64) : pm_pL (fp_m L R I J) 3 k 34 v = some (fp_m L R I (va_up J 34 (va_up (J 34) k v))) := rfl
theorem k_37 : pm_kd (fp_m L R I J) 4 37 = true := rfl
theorem gi_37 (k : Nat) : pm_gI (fp_m L R I J) 4 k 37 = some (I 37 k) := rfl
theorem gl_37 (k : Nat) : pm_gL (fp_m L R I J) 4 k 37 = some (J 37 k) := rfl
theorem pi_37 (k : Nat) (v : Int32) : pm_pI (fp_m L R I J) 4 k 37 v = some (fp_m L R (va_up I 37 (va_up (I 37) k v)) J) := rfl
theorem pl_37 (k : Nat) (v : Int64) : pm_pL (fp_m L R I J) 4 k 37 v = some (fp_m L R I (va_up J 37 (va_up (J 37) k v))) := rfl
theorem k_40 : pm_kd (fp_m L R I J) 1 40 = true := rfl
theorem gi_40 (k : Nat) : pm_gI (fp_m L R I J) 1 k 40 = some (I 40 k) := rfl
theorem gl_40 (k : Nat) : pm_gL (fp_m L R I J) 1 k 40 = some (J 40 k) := rfl
theorem pi_40 (k : Nat) (v : Int32) : pm_pI (fp_m L R I J) 1 k 40 v = some (fp_m L R (va_up I 40 (va_up (I 40) k v)) J) := rfl
theorem pl_40 (k : Nat) (v : Int64) : pm_pL (fp_m L R I J) 1 k 40 v = some (fp_m L R I (va_up J 40 (va_up (J 40) k v))) := rfl
theorem k_42 : pm_kd (fp_m L R I J) 0 42 = true := rfl
theorem gi_42 (k : Nat) : pm_gI (fp_m L R I J) 0 k 42 = some (I 42 k) := rfl
theorem gl_42 (k : Nat) : pm_gL (fp_m L R I J) 0 k 42 = some (J 42 k) := rfl
theorem pi_42 (k : Nat) (v : Int32) : pm_pI (fp_m L R I J) 0 k 42 v = some (fp_m L R (va_up I 42 (va_up (I 42) k v)) J) := rfl
theorem pl_42 (k : Nat) (v : Int64) : pm_pL (fp_m L R I J) 0 k 42 v = some (fp_m L R I (va_up J 42 (va_up (J 42) k v))) := rfl
theorem k_45 : pm_kd (fp_m L R I J) 7 45 = true := rfl
theorem gi_45 (k : Nat) : pm_gI (fp_m L R I J) 7 k 45 = some (I 45 k) := rfl
theorem gl_45 (k : Nat) : pm_gL (fp_m L R I J) 7 k 45 = some (J 45 k) := rfl
theorem pi_45 (k : Nat) (v : Int32) : pm_pI (fp_m L R I J) 7 k 45 v = some (fp_m L R (va_up I 45 (va_up (I 45) k v)) J) := rfl
theorem pl_45 (k : Nat) (v : Int64) : pm_pL (fp_m L R I J) 7 k 45 v = some (fp_m L R I (va_up J 45 (va_up (J 45) k v))) := rfl
theorem gr_1_0 (hR : fp_RK R) : pm_gR (fp_m L R I J) 6 0 1 = some 2 := fp_gR (n := 6) rfl (fp_R hR (by decide))
theorem gr_1_1 (hR : fp_RK R) : pm_gR (fp_m L R I J) 6 1 1 = some 19 := fp_gR (n := 6) rfl (fp_R hR (by decide))
theorem gr_1_2 (hR : fp_RK R) : pm_gR (fp_m L R I J) 6 2 1 = some 34 := fp_gR (n := 6) rfl (fp_R hR (by decide))
theorem gr_1_3 (hR : fp_RK R) : pm_gR (fp_m L R I J) 6 3 1 = some 37 := fp_gR (n := 6) rfl (fp_R hR (by decide))
theorem gr_1_4 (hR : fp_RK R) : pm_gR (fp_m L R I J) 6 4 1 = some 40 := fp_gR (n := 6) rfl (fp_R hR (by decide))
theorem gr_1_5 (hR : fp_RK R) : pm_gR (fp_m L R I J) 6 5 1 = some 42 := fp_gR (n := 6) rfl (fp_R hR (by decide))
theorem gr_19_0 (hR : fp_RK R) : pm_gR (fp_m L R I J) 2 0 19 = some 20 := fp_gR (n := 4) rfl (fp_R hR (by decide))
theorem gr_19_1 (hR : fp_RK R) : pm_gR (fp_m L R I J) 2 1 19 = some 21 := fp_gR (n := 4) rfl (fp_R hR (by decide))
theorem gr_34_2 (hR : fp_RK R) : pm_gR (fp_m L R I J) 3 2 34 = some 35 := fp_gR (n := 12) rfl (fp_R hR (by decide))
theorem gr_34_11 (hR : fp_RK R) : pm_gR (fp_m L R I J) 3 11 34 = some 36 := fp_gR (n := 12) rfl (fp_R hR (by decide))
theorem gr_37_0 (hR : fp_RK R) : pm_gR (fp_m L R I J) 4 0 37 = some 38 := fp_gR (n := 3) rfl (fp_R hR (by decide))
theorem gr_37_1 (hR : fp_RK R) : pm_gR (fp_m L R I J) 4 1 37 = some 39 := fp_gR (n := 3) rfl (fp_R hR (by decide))
theorem gr_40_3 (hR : fp_RK R) : pm_gR (fp_m L R I J) 1 3 40 = some 41 := fp_gR (n := 4) rfl (fp_R hR (by decide))
theorem gr_42_0 (hR : fp_RK R) : pm_gR (fp_m L R I J) 0 0 42 = some 43 := fp_gR (n := 2) rfl (fp_R hR (by decide))
theorem gr_42_1 (hR : fp_RK R) : pm_gR (fp_m L R I J) 0 1 42 = some 44 := fp_gR (n := 2) rfl (fp_R hR (by decide))
theorem gr_45_0 (hR : fp_RK R) : pm_gR (fp_m L R I J) 7 0 45 = some 46 := fp_gR (n := 9) rfl (fp_R hR (by decide))
theorem gr_45_1 (hR : fp_RK R) : pm_gR (fp_m L R I J) 7 1 45 = some 47 := fp_gR (n := 9) rfl (fp_R hR (by decide))
theorem gr_45_5 (hR : fp_RK R) : pm_gR (fp_m L R I J) 7 5 45 = some 48 := fp_gR (n := 9) rfl (fp_R hR (by decide))
theorem gr_45_6 (hR : fp_RK R) : pm_gR (fp_m L R I J) 7 6 45 = some 49 := fp_gR (n := 9) rfl (fp_R hR (by decide))
theorem gr_45_7 (hR : fp_RK R) : pm_gR (fp_m L R I J) 7 7 45 = some 50 := fp_gR (n := 9) rfl (fp_R hR (by decide))
theorem ai_21 {j : Nat} (h : j < 6) : pm_aI (fp_m L R I J) 21 (nI j) = some (I 21 j) := fp_aI (n := 6) rfl h (by decide)
theorem si_21 {j : Nat} (h : j < 6) (v : Int32) : pm_sI (fp_m L R I J) 21 (nI j) v = some (fp_m L R (va_up I 21 (va_up (I 21) j v)) J) := fp_sI (n := 6) rfl (by decide) h (by decide) v
theorem al_21 : pm_al (fp_m L R I J) 21 = some (nI 6) := rfl
theorem ai_35 {j : Nat} (h : j < 81) : pm_aI (fp_m L R I J) 35 (nI j) = some (I 35 j) := fp_aI (n := 81) rfl h (by decide)
theorem si_35 {j : Nat} (h : j < 81) (v : Int32) : pm_sI (fp_m L R I J) 35 (nI j) v = some (fp_m L R (va_up I 35 (va_up (I 35) j v)) J) := fp_sI (n := 81) rfl (by decide) h (by decide) v
theorem al_35 : pm_al (fp_m L R I J) 35 = some (nI 81) := rfl
theorem ai_36 {j : Nat} (h : j < 3) : pm_aI (fp_m L R I J) 36 (nI j) = some (I 36 j) := fp_aI (n := 3) rfl h (by decide)
theorem si_36 {j : Nat} (h : j < 3) (v : Int32) : pm_sI (fp_m L R I J) 36 (nI j) v = some (fp_m L R (va_up I 36 (va_up (I 36) j v)) J) := fp_sI (n := 3) rfl (by decide) h (by decide) v
theorem al_36 : pm_al (fp_m L R I J) 36 = some (nI 3) := rfl
theorem ai_38 {j : Nat} (h : j < 30) : pm_aI (fp_m L R I J) 38 (nI j) = some (I 38 j) := fp_aI (n := 30) rfl h (by decide)
theorem si_38 {j : Nat} (h : j < 30) (v : Int32) : pm_sI (fp_m L R I J) 38 (nI j) v = some (fp_m L R (va_up I 38 (va_up (I 38) j v)) J) := fp_sI (n := 30) rfl (by decide) h (by decide) v
theorem al_38 : pm_al (fp_m L R I J) 38 = some (nI 30) := rfl
theorem ai_39 {j : Nat} (h : j < 30) : pm_aI (fp_m L R I J) 39 (nI j) = some (I 39 j) := fp_aI (n := 30) rfl h (by decide)
theorem si_39 {j : Nat} (h : j < 30) (v : Int32) : pm_sI (fp_m L R I J) 39 (nI j) v = some (fp_m L R (va_up I 39 (va_up (I 39) j v)) J) := fp_sI (n := 30) rfl (by decide) h (by decide) v
theorem al_39 : pm_al (fp_m L R I J) 39 = some (nI 30) := rfl
theorem ai_43 {j : Nat} (h : j < 256) : pm_aI (fp_m L R I J) 43 (nI j) = some (I 43 j) := fp_aI (n := 256) rfl h (by decide)
theorem si_43 {j : Nat} (h : j < 256) (v : Int32) : pm_sI (fp_m L R I J) 43 (nI j) v = some (fp_m L R (va_up I 43 (va_up (I 43) j v)) J) := fp_sI (n := 256) rfl (by decide) h (by decide) v
theorem al_43 : pm_al (fp_m L R I J) 43 = some (nI 256) := rfl
theorem ai_44 {j : Nat} (h : j < 256) : pm_aI (fp_m L R I J) 44 (nI j) = some (I 44 j) := fp_aI (n := 256) rfl h (by decide)
theorem si_44 {j : Nat} (h : j < 256) (v : Int32) : pm_sI (fp_m L R I J) 44 (nI j) v = some (fp_m L R (va_up I 44 (va_up (I 44) j v)) J) := fp_sI (n := 256) rfl (by decide) h (by decide) v
theorem al_44 : pm_al (fp_m L R I J) 44 = some (nI 256) := rfl
theorem ai_46 {j : Nat} (h : j < 672) : pm_aI (fp_m L R I J) 46 (nI j) = some (I 46 j) := fp_aI (n := 672) rfl h (by decide)
theorem si_46 {j : Nat} (h : j < 672) (v : Int32) : pm_sI (fp_m L R I J) 46 (nI j) v = some (fp_m L R (va_up I 46 (va_up (I 46) j v)) J) := fp_sI (n := 672) rfl (by decide) h (by decide) v
theorem al_46 : pm_al (fp_m L R I J) 46 = some (nI 672) := rfl
theorem ai_47 {j : Nat} (h : j < 4032) : pm_aI (fp_m L R I J) 47 (nI j) = some (I 47 j) := fp_aI (n := 4032) rfl h (by decide)
theorem si_47 {j : Nat} (h : j < 4032) (v : Int32) : pm_sI (fp_m L R I J) 47 (nI j) v = some (fp_m L R (va_up I 47 (va_up (I 47) j v)) J) := fp_sI (n := 4032) rfl (by decide) h (by decide) v
theorem al_47 : pm_al (fp_m L R I J) 47 = some (nI 4032) := rfl
theorem ai_48 {j : Nat} (h : j < 81) : pm_aI (fp_m L R I J) 48 (nI j) = some (I 48 j) := fp_aI (n := 81) rfl h (by decide)
theorem si_48 {j : Nat} (h : j < 81) (v : Int32) : pm_sI (fp_m L R I J) 48 (nI j) v = some (fp_m L R (va_up I 48 (va_up (I 48) j v)) J) := fp_sI (n := 81) rfl (by decide) h (by decide) v
theorem al_48 : pm_al (fp_m L R I J) 48 = some (nI 81) := rfl
theorem ai_49 {j : Nat} (h : j < 729) : pm_aI (fp_m L R I J) 49 (nI j) = some (I 49 j) := fp_aI (n := 729) rfl h (by decide)
theorem si_49 {j : Nat} (h : j < 729) (v : Int32) : pm_sI (fp_m L R I J) 49 (nI j) v = some (fp_m L R (va_up I 49 (va_up (I 49) j v)) J) := fp_sI (n := 729) rfl (by decide) h (by decide) v
theorem al_49 : pm_al (fp_m L R I J) 49 = some (nI 729) := rfl
theorem ai_41 {j : Nat} (h : j < 81) : pm_aL (fp_m L R I J) 41 (nI j) = some (J 41 j) := fp_aL (n := 81) rfl h (by decide)
theorem si_41 {j : Nat} (h : j < 81) (v : Int64) : pm_sL (fp_m L R I J) 41 (nI j) v = some (fp_m L R I (va_up J 41 (va_up (J 41) j v))) := fp_sL (n := 81) rfl h (by decide) v
theorem al_41 : pm_al (fp_m L R I J) 41 = some (nI 81) := rfl
theorem ai_50 {j : Nat} (h : j < 81) : pm_aL (fp_m L R I J) 50 (nI j) = some (J 50 j) := fp_aL (n := 81) rfl h (by decide)
theorem si_50 {j : Nat} (h : j < 81) (v : Int64) : pm_sL (fp_m L R I J) 50 (nI j) v = some (fp_m L R I (va_up J 50 (va_up (J 50) j v))) := fp_sL (n := 81) rfl h (by decide) v
theorem al_50 : pm_al (fp_m L R I J) 50 = some (nI 81) := rfl
theorem ar_2 (hR : fp_RK R) {t : Nat} (h : t < 8) : pm_aR (fp_m L R I J) 2 (nI t) = some (3 + 2 * t) := fp_aR (n := 8) rfl h (by decide) (fp_tabs hR h)
theorem ar_20 (hR : fp_RK R) {t : Nat} (h : t < 6) : pm_aR (fp_m L R I J) 20 (nI t) = some (22 + 2 * t) := fp_aR (n := 6) rfl h (by decide) (fp_kept hR h)
theorem k_T {r : Nat} (h : fp_tb r) : pm_kd (fp_m L R I J) 5 r = true := fp_kd (n := 4) (fp_tb_sh h).1
theorem gi_T {r : Nat} (h : fp_tb r) (k : Nat) : pm_gI (fp_m L R I J) 5 k r = some (I r k) := fp_gI (n := 4) (fp_tb_sh h).1
theorem pi_T {r : Nat} (h : fp_tb r) (k : Nat) (v : Int32) : pm_pI (fp_m L R I J) 5 k r v = some (fp_m L R (va_up I r (va_up (I r) k v)) J) := fp_pI (n := 4) (fp_tb_sh h).1 v
theorem gr_T (hR : fp_RK R) {r : Nat} (h : fp_tb r) : pm_gR (fp_m L R I J) 5 3 r = some (r + 1) := fp_gR (n := 4) (fp_tb_sh h).1 (fp_tb_R hR h)
theorem ai_T {r j : Nat} (h : fp_tb r) (hj : j < 81) : pm_aI (fp_m L R I J) (r + 1) (nI j) = some (I (r + 1) j) := fp_aI (n := 81) (fp_tb_sh h).2 hj (by decide)
theorem si_T {r j : Nat} (h : fp_tb r) (hj : j < 81) (v : Int32) : pm_sI (fp_m L R I J) (r + 1) (nI j) v = some (fp_m L R (va_up I (r + 1) (va_up (I (r + 1)) j v)) J) := fp_sI (n := 81) (fp_tb_sh h).2 (by omega) hj (by decide) v
theorem al_T {r : Nat} (h : fp_tb r) : pm_al (fp_m L R I J) (r + 1) = some (nI 81) := by
  unfold pm_al
  rw [show (fp_m L R I J).1[r + 1]? = some (8, 81) from (fp_tb_sh h).2]
  rfl
theorem ai_0 {j : Nat} (h : j < L) (hL : L < 2 ^ 31) : pm_aI (fp_m L R I J) 0 (nI j) = some (I 0 j) := fp_aI (n := L) rfl h hL
theorem al_0 : pm_al (fp_m L R I J) 0 = some (nI L) := rfl
theorem tb_t {t : Nat} (h : t < 8) : fp_tb (3 + 2 * t) := Or.inl ⟨t, h, rfl⟩
theorem tb_k {i : Nat} (h : i < 6) : fp_tb (22 + 2 * i) := Or.inr ⟨i, h, rfl⟩
end FpCells
