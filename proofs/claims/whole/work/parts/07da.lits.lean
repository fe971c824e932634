/-! literals, one by one, for simp -/
theorem nm_2 (i : Nat) : (2 : Int32) * nI i = nI (2 * i) := pk_mul 2 i
theorem nm_3 (i : Nat) : (3 : Int32) * nI i = nI (3 * i) := pk_mul 3 i
theorem nm_4 (i : Nat) : (4 : Int32) * nI i = nI (4 * i) := pk_mul 4 i
theorem nm_5 (i : Nat) : (5 : Int32) * nI i = nI (5 * i) := pk_mul 5 i
theorem nm_9 (i : Nat) : (9 : Int32) * nI i = nI (9 * i) := pk_mul 9 i
theorem nm_16 (i : Nat) : (16 : Int32) * nI i = nI (16 * i) := pk_mul 16 i
theorem nm_27 (i : Nat) : (27 : Int32) * nI i = nI (27 * i) := pk_mul 27 i
theorem nm_84 (i : Nat) : (84 : Int32) * nI i = nI (84 * i) := pk_mul 84 i
theorem nm_672 (i : Nat) : (672 : Int32) * nI i = nI (672 * i) := pk_mul 672 i
theorem nr_2 (i : Nat) : nI i * (2 : Int32) = nI (i * 2) := pk_mul i 2
theorem nr_3 (i : Nat) : nI i * (3 : Int32) = nI (i * 3) := pk_mul i 3
theorem nr_4 (i : Nat) : nI i * (4 : Int32) = nI (i * 4) := pk_mul i 4
theorem nr_5 (i : Nat) : nI i * (5 : Int32) = nI (i * 5) := pk_mul i 5
theorem nr_9 (i : Nat) : nI i * (9 : Int32) = nI (i * 9) := pk_mul i 9
theorem nr_16 (i : Nat) : nI i * (16 : Int32) = nI (i * 16) := pk_mul i 16
theorem nr_27 (i : Nat) : nI i * (27 : Int32) = nI (i * 27) := pk_mul i 27
theorem nr_84 (i : Nat) : nI i * (84 : Int32) = nI (i * 84) := pk_mul i 84
theorem nr_672 (i : Nat) : nI i * (672 : Int32) = nI (i * 672) := pk_mul i 672
theorem na_1 (i : Nat) : nI i + (1 : Int32) = nI (i + 1) := nI_add i 1
theorem na_2 (i : Nat) : nI i + (2 : Int32) = nI (i + 2) := nI_add i 2
theorem na_3 (i : Nat) : nI i + (3 : Int32) = nI (i + 3) := nI_add i 3
theorem na_4 (i : Nat) : nI i + (4 : Int32) = nI (i + 4) := nI_add i 4
theorem na_5 (i : Nat) : nI i + (5 : Int32) = nI (i + 5) := nI_add i 5
theorem na_6 (i : Nat) : nI i + (6 : Int32) = nI (i + 6) := nI_add i 6
theorem na_128 (i : Nat) : nI i + (128 : Int32) = nI (i + 128) := nI_add i 128
theorem na_672 (i : Nat) : nI i + (672 : Int32) = nI (i + 672) := nI_add i 672
theorem ns_1 {i : Nat} (h : 1 ≤ i) : nI i - (1 : Int32) = nI (i - 1) := pk_sub h
theorem ns_2 {i : Nat} (h : 2 ≤ i) : nI i - (2 : Int32) = nI (i - 2) := pk_sub h
theorem ns_3 {i : Nat} (h : 3 ≤ i) : nI i - (3 : Int32) = nI (i - 3) := pk_sub h
theorem nd_2 {i : Nat} (h : i < 2 ^ 31) : nI i / (2 : Int32) = nI (i / 2) := pk_div h (by decide) (by decide)
theorem nd_3 {i : Nat} (h : i < 2 ^ 31) : nI i / (3 : Int32) = nI (i / 3) := pk_div h (by decide) (by decide)
theorem nd_4 {i : Nat} (h : i < 2 ^ 31) : nI i / (4 : Int32) = nI (i / 4) := pk_div h (by decide) (by decide)
theorem nd_8 {i : Nat} (h : i < 2 ^ 31) : nI i / (8 : Int32) = nI (i / 8) := pk_div h (by decide) (by decide)
theorem nd_9 {i : Nat} (h : i < 2 ^ 31) : nI i / (9 : Int32) = nI (i / 9) := pk_div h (by decide) (by decide)
theorem nd_27 {i : Nat} (h : i < 2 ^ 31) : nI i / (27 : Int32) = nI (i / 27) := pk_div h (by decide) (by decide)
theorem nq_2 {i : Nat} (h : i < 2 ^ 31) : pm_rem (nI i) (2 : Int32) = nI (i % 2) := fp_rem h (by decide) (by decide)
theorem nq_3 {i : Nat} (h : i < 2 ^ 31) : pm_rem (nI i) (3 : Int32) = nI (i % 3) := fp_rem h (by decide) (by decide)
theorem nq_4 {i : Nat} (h : i < 2 ^ 31) : pm_rem (nI i) (4 : Int32) = nI (i % 4) := fp_rem h (by decide) (by decide)
theorem nq_6 {i : Nat} (h : i < 2 ^ 31) : pm_rem (nI i) (6 : Int32) = nI (i % 6) := fp_rem h (by decide) (by decide)
theorem nl_0 : (0 : Int32) = nI 0 := rfl
theorem nl_1 : (1 : Int32) = nI 1 := rfl
theorem nl_2 : (2 : Int32) = nI 2 := rfl
theorem nl_3 : (3 : Int32) = nI 3 := rfl
theorem nl_4 : (4 : Int32) = nI 4 := rfl
theorem nl_5 : (5 : Int32) = nI 5 := rfl
theorem nl_6 : (6 : Int32) = nI 6 := rfl
theorem nl_7 : (7 : Int32) = nI 7 := rfl
theorem nl_8 : (8 : Int32) = nI 8 := rfl
theorem nl_9 : (9 : Int32) = nI 9 := rfl
theorem nl_10 : (10 : Int32) = nI 10 := rfl
theorem nl_11 : (11 : Int32) = nI 11 := rfl
theorem nl_12 : (12 : Int32) = nI 12 := rfl
theorem nl_13 : (13 : Int32) = nI 13 := rfl
theorem nl_14 : (14 : Int32) = nI 14 := rfl
theorem nl_15 : (15 : Int32) = nI 15 := rfl
theorem nl_16 : (16 : Int32) = nI 16 := rfl
theorem nl_17 : (17 : Int32) = nI 17 := rfl
theorem nl_18 : (18 : Int32) = nI 18 := rfl
theorem nl_19 : (19 : Int32) = nI 19 := rfl
theorem nl_20 : (20 : Int32) = nI 20 := rfl
theorem nl_21 : (21 : Int32) = nI 21 := rfl
theorem nl_22 : (22 : Int32) = nI 22 := rfl
theorem nl_23 : (23 : Int32) = nI 23 := rfl
theorem nl_24 : (24 : Int32) = nI 24 := rfl
theorem nl_25 : (25 : Int32) = nI 25 := rfl
theorem nl_26 : (26 : Int32) = nI 26 := rfl
theorem nl_27 : (27 : Int32) = nI 27 := rfl
theorem nl_28 : (28 : Int32) = nI 28 := rfl
theorem nl_29 : (29 : Int32) = nI 29 := rfl
theorem nl_30 : (30 : Int32) = nI 30 := rfl
theorem nl_31 : (31 : Int32) = nI 31 := rfl
theorem nl_32 : (32 : Int32) = nI 32 := rfl
theorem ll_0 : (0 : Int64) = lN 0 := rfl
theorem ll_1 : (1 : Int64) = lN 1 := rfl
theorem ll_2 : (2 : Int64) = lN 2 := rfl
theorem ll_3 : (3 : Int64) = lN 3 := rfl
theorem ll_4 : (4 : Int64) = lN 4 := rfl
theorem ll_5 : (5 : Int64) = lN 5 := rfl
theorem ll_6 : (6 : Int64) = lN 6 := rfl
theorem ll_7 : (7 : Int64) = lN 7 := rfl
theorem ll_8 : (8 : Int64) = lN 8 := rfl
