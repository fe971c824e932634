set_option maxRecDepth 100000 in
set_option maxHeartbeats 4000000 in
theorem e_X0_init (M : pm_M) (x0 : Nat) : pm_C mX0_init [.ref x0] M = (pm_pR (pm_new M (8, 256)) 0 0 x0 (M).1.length).bind fun m1 => (pm_pR (pm_new m1 (8, 256)) 0 1 x0 (m1).1.length).bind fun m2 => some (.null, m2) := (pm_xeqC mX0_init c_X0_init d_X0_init rfl rfl 400 _ M).trans rfl
set_option maxRecDepth 100000 in
set_option maxHeartbeats 4000000 in
theorem e_X0_greatestSum (M : pm_M) (x0 : Nat) (x1 : Nat) : pm_C mX0_greatestSum [.ref x0, .ref x1] M = pm_res mX0_greatestSum 2 [(0, .ref x0), (1, .ref x1), (2, .int 0)] [] M := (pm_xeqC mX0_greatestSum c_X0_greatestSum d_X0_greatestSum rfl rfl 400 _ M).trans rfl
set_option maxRecDepth 100000 in
set_option maxHeartbeats 4000000 in
theorem e_X0_greatestSum_2 (M : pm_M) (x0 : Nat) (x1 : Nat) (x2 : Int32) : pm_res mX0_greatestSum 2 [(0, .ref x0), (1, .ref x1), (2, .int x2)] [] M = 
    if 16 ≤ x2 then (pm_res mX0_greatestSum 68 [(0, .ref x0), (2, .int 0), (3, .int 0)] [] M)
    else (pm_res mX0_greatestSum 10 [(0, .ref x0), (1, .ref x1), (2, .int x2), (3, .int 0)] [] M) := (pm_xeq mX0_greatestSum c_X0_greatestSum d_X0_greatestSum rfl rfl 400 2 _ _ M).trans rfl
set_option maxRecDepth 100000 in
set_option maxHeartbeats 4000000 in
theorem e_X0_greatestSum_10 (M : pm_M) (x0 : Nat) (x1 : Nat) (x2 : Int32) (x3 : Int32) : pm_res mX0_greatestSum 10 [(0, .ref x0), (1, .ref x1), (2, .int x2), (3, .int x3)] [] M = 
    if 16 ≤ x3 then (pm_res mX0_greatestSum 2 [(0, .ref x0), (1, .ref x1), (2, .int (x2 + 1))] [] M)
    else ((pm_gR M 0 0 x0).bind fun g1 => (pm_oI (pm_C mX0_halfSum [.ref x1, .int 0, .int x2, .int x3] M)).bind fun q2 => (pm_sI q2.2 g1 ((x2 * 16) + x3) q2.1).bind fun m3 => (pm_gR m3 0 1 x0).bind fun g4 => (pm_oI (pm_C mX0_halfSum [.ref x1, .int 2, .int x2, .int x3] m3)).bind fun q5 => (pm_sI q5.2 g4 ((x2 * 16) + x3) q5.1).bind fun m6 => pm_res mX0_greatestSum 10 [(0, .ref x0), (1, .ref x1), (2, .int x2), (3, .int (x3 + 1))] [] m6) := (pm_xeq mX0_greatestSum c_X0_greatestSum d_X0_greatestSum rfl rfl 400 10 _ _ M).trans rfl
set_option maxRecDepth 100000 in
set_option maxHeartbeats 4000000 in
theorem e_X0_greatestSum_68 (M : pm_M) (x0 : Nat) (x2 : Int32) (x3 : Int32) : pm_res mX0_greatestSum 68 [(0, .ref x0), (2, .int x2), (3, .int x3)] [] M = 
    if 16 ≤ x3 then (some (.long x2.toInt64, M))
    else (pm_res mX0_greatestSum 77 [(0, .ref x0), (2, .int x2), (3, .int x3), (4, .int 0)] [] M) := (pm_xeq mX0_greatestSum c_X0_greatestSum d_X0_greatestSum rfl rfl 400 68 _ _ M).trans rfl
set_option maxRecDepth 100000 in
set_option maxHeartbeats 4000000 in
theorem e_X0_greatestSum_77 (M : pm_M) (x0 : Nat) (x2 : Int32) (x3 : Int32) (x4 : Int32) : pm_res mX0_greatestSum 77 [(0, .ref x0), (2, .int x2), (3, .int x3), (4, .int x4)] [] M = 
    if 16 ≤ x4 then (pm_res mX0_greatestSum 68 [(0, .ref x0), (2, .int x2), (3, .int (x3 + 1))] [] M)
    else (bif pm_kd M 0 x0 then ((pm_oI (pm_C mX0_joinedSum [.ref x0, .int (x3 * 16), .int (x4 * 16)] M)).bind fun q1 => pm_res mX0_greatestSum 77 [(0, .ref x0), (2, .int (pm_max x2 q1.1)), (3, .int x3), (4, .int (x4 + 1))] [] q1.2) else none) := (pm_xeq mX0_greatestSum c_X0_greatestSum d_X0_greatestSum rfl rfl 400 77 _ _ M).trans rfl
set_option maxRecDepth 100000 in
set_option maxHeartbeats 4000000 in
theorem e_X0_halfSum (M : pm_M) (x0 : Nat) (x1 : Int32) (x2 : Int32) (x3 : Int32) : pm_C mX0_halfSum [.ref x0, .int x1, .int x2, .int x3] M = (pm_oI (pm_C mX0_product [.ref x0, .int x1, .int (x2 / 4), .int x3] M)).bind fun q1 => (pm_oI (pm_C mX0_product [.ref x0, .int (x1 + 1), .int (pm_rem x2 4), .int x3] q1.2)).bind fun q2 => some (.int (q1.1 + q2.1), q2.2) := (pm_xeqC mX0_halfSum c_X0_halfSum d_X0_halfSum rfl rfl 400 _ M).trans rfl
set_option maxRecDepth 100000 in
set_option maxHeartbeats 4000000 in
theorem e_X0_product (M : pm_M) (x0 : Nat) (x1 : Int32) (x2 : Int32) (x3 : Int32) : pm_C mX0_product [.ref x0, .int x1, .int x2, .int x3] M = (pm_gR M 3 2 x0).bind fun g1 => (pm_oI (pm_C mX6_spot [.int (x1 / 2), .int ((x3 / 4) / 2), .int (x2 / 2), .int ((pm_rem x3 4) / 2)] M)).bind fun q2 => (pm_aI q2.2 g1 q2.1).bind fun g3 => (pm_gR q2.2 3 2 x0).bind fun g4 => (pm_oI (pm_C mX6_spot [.int (pm_rem x1 2), .int (pm_rem (x3 / 4) 2), .int (pm_rem x2 2), .int (pm_rem (pm_rem x3 4) 2)] q2.2)).bind fun q5 => (pm_aI q5.2 g4 q5.1).bind fun g6 => some (.int (g3 * g6), q5.2) := (pm_xeqC mX0_product c_X0_product d_X0_product rfl rfl 400 _ M).trans rfl
set_option maxRecDepth 100000 in
set_option maxHeartbeats 4000000 in
theorem e_X0_joinedSum (M : pm_M) (x0 : Nat) (x1 : Int32) (x2 : Int32) : pm_C mX0_joinedSum [.ref x0, .int x1, .int x2] M = pm_res mX0_joinedSum 5 [(0, .ref x0), (1, .int x1), (2, .int x2), (3, .int 0), (4, .int 0)] [] M := (pm_xeqC mX0_joinedSum c_X0_joinedSum d_X0_joinedSum rfl rfl 400 _ M).trans rfl
set_option maxRecDepth 100000 in
set_option maxHeartbeats 4000000 in
theorem e_X0_joinedSum_5 (M : pm_M) (x0 : Nat) (x1 : Int32) (x2 : Int32) (x3 : Int32) (x4 : Int32) : pm_res mX0_joinedSum 5 [(0, .ref x0), (1, .int x1), (2, .int x2), (3, .int x3), (4, .int x4)] [] M = 
    if 16 ≤ x4 then (some (.int x3, M))
    else (pm_res mX0_joinedSum 18 [(0, .ref x0), (1, .int x1), (2, .int x2), (3, .int x3), (4, .int x4), (5, .int 0), (6, .int 0)] [] M) := (pm_xeq mX0_joinedSum c_X0_joinedSum d_X0_joinedSum rfl rfl 400 5 _ _ M).trans rfl
set_option maxRecDepth 100000 in
set_option maxHeartbeats 4000000 in
theorem e_X0_joinedSum_18 (M : pm_M) (x0 : Nat) (x1 : Int32) (x2 : Int32) (x3 : Int32) (x4 : Int32) (x5 : Int32) (x6 : Int32) : pm_res mX0_joinedSum 18 [(0, .ref x0), (1, .int x1), (2, .int x2), (3, .int x3), (4, .int x4), (5, .int x5), (6, .int x6)] [] M = 
    if 4 ≤ x6 then (pm_res mX0_joinedSum 5 [(0, .ref x0), (1, .int x1), (2, .int x2), (3, .int (x3 + x5)), (4, .int (x4 + 4))] [] M)
    else ((pm_gR M 0 0 x0).bind fun g1 => (pm_aI M g1 (x1 + (x4 + x6))).bind fun g2 => (pm_gR M 0 1 x0).bind fun g3 => (pm_aI M g3 (x2 + (x4 + x6))).bind fun g4 => pm_res mX0_joinedSum 18 [(0, .ref x0), (1, .int x1), (2, .int x2), (3, .int x3), (4, .int x4), (5, .int (pm_max x5 (g2 + g4))), (6, .int (x6 + 1))] [] M) := (pm_xeq mX0_joinedSum c_X0_joinedSum d_X0_joinedSum rfl rfl 400 18 _ _ M).trans rfl
set_option maxRecDepth 100000 in
set_option maxHeartbeats 4000000 in
theorem e_X1_init (M : pm_M) (x0 : Nat) : pm_C mX1_init [.ref x0] M = (pm_pR (pm_new M (9, 81)) 1 3 x0 (M).1.length).bind fun m1 => some (.null, m1) := (pm_xeqC mX1_init c_X1_init d_X1_init rfl rfl 400 _ M).trans rfl
set_option maxRecDepth 100000 in
set_option maxHeartbeats 4000000 in
theorem e_X1_start (M : pm_M) (x0 : Nat) (x1 : Int32) (x2 : Int32) : pm_C mX1_start [.ref x0, .int x1, .int x2] M = (pm_pI M 1 0 x0 x1).bind fun m1 => (pm_pI m1 1 1 x0 x2).bind fun m2 => (pm_pL m2 1 2 x0 0).bind fun m3 => (pm_gR m3 1 3 x0).bind fun g4 => (pm_oV (pm_C mJ7_fill_d0a16 [.ref g4, .long 0] m3)).bind fun m5 => some (.null, m5) := (pm_xeqC mX1_start c_X1_start d_X1_start rfl rfl 400 _ M).trans rfl
set_option maxRecDepth 100000 in
set_option maxHeartbeats 4000000 in
theorem e_X1_addSure (M : pm_M) (x0 : Nat) (x1 : Int32) (x2 : Int32) : pm_C mX1_addSure [.ref x0, .int x1, .int x2] M = (pm_gI M 1 1 x0).bind fun g1 => (pm_gI M 1 0 x0).bind fun g2 => (pm_oI (pm_C mX6_power [.int g1, .int g2] M)).bind fun q3 => 
    if 1 ≤ q3.1 then (pm_res mX1_addSure 21 [(0, .ref x0), (1, .int x1), (2, .int x2), (3, .int q3.1), (4, .int 0)] [] q3.2)
    else (some (.null, q3.2)) := (pm_xeqC mX1_addSure c_X1_addSure d_X1_addSure rfl rfl 400 _ M).trans rfl
set_option maxRecDepth 100000 in
set_option maxHeartbeats 4000000 in
theorem e_X1_addSure_21 (M : pm_M) (x0 : Nat) (x1 : Int32) (x2 : Int32) (x3 : Int32) (x4 : Int32) : pm_res mX1_addSure 21 [(0, .ref x0), (1, .int x1), (2, .int x2), (3, .int x3), (4, .int x4)] [] M = (pm_gI M 1 0 x0).bind fun g1 => 
    if g1 ≤ x4 then ((pm_gL M 1 2 x0).bind fun g2 => (pm_pL M 1 2 x0 (g2 + x2.toInt64)).bind fun m3 => some (.null, m3))
    else (pm_nz (decide (x3 = 0)) <| (pm_gI M 1 1 x0).bind fun g4 => (pm_oI (pm_C mX6_digit [.int (x1 / x3), .int g4, .int x4] M)).bind fun q5 => pm_res mX1_addSure 47 [(0, .ref x0), (1, .int x1), (2, .int x2), (3, .int x3), (4, .int x4), (5, .int q5.1), (6, .int 0)] [] q5.2) := (pm_xeq mX1_addSure c_X1_addSure d_X1_addSure rfl rfl 400 21 _ _ M).trans rfl
set_option maxRecDepth 100000 in
set_option maxHeartbeats 4000000 in
theorem e_X1_addSure_47 (M : pm_M) (x0 : Nat) (x1 : Int32) (x2 : Int32) (x3 : Int32) (x4 : Int32) (x5 : Int32) (x6 : Int32) : pm_res mX1_addSure 47 [(0, .ref x0), (1, .int x1), (2, .int x2), (3, .int x3), (4, .int x4), (5, .int x5), (6, .int x6)] [] M = (pm_gI M 1 0 x0).bind fun g1 => 
    if g1 ≤ x6 then (pm_res mX1_addSure 21 [(0, .ref x0), (1, .int x1), (2, .int x2), (3, .int x3), (4, .int (x4 + 1))] [] M)
    else ((pm_gR M 1 3 x0).bind fun g2 => pm_nz (decide (x3 = 0)) <| (pm_gI M 1 1 x0).bind fun g3 => (pm_oI (pm_C mX6_digit [.int (pm_rem x1 x3), .int g3, .int x6] M)).bind fun q4 => (pm_oI (pm_C mX6_spot [.int x4, .int x6, .int x5, .int q4.1] q4.2)).bind fun q5 => (pm_aL q5.2 g2 q5.1).bind fun g6 => (pm_sL q5.2 g2 q5.1 (g6 + x2.toInt64)).bind fun m7 => pm_res mX1_addSure 47 [(0, .ref x0), (1, .int x1), (2, .int x2), (3, .int x3), (4, .int x4), (5, .int x5), (6, .int (x6 + 1))] [] m7) := (pm_xeq mX1_addSure c_X1_addSure d_X1_addSure rfl rfl 400 47 _ _ M).trans rfl
set_option maxRecDepth 100000 in
set_option maxHeartbeats 4000000 in
theorem e_X1_startCorner (M : pm_M) (x0 : Nat) (x1 : Int32) : pm_C mX1_startCorner [.ref x0, .int x1] M = bif pm_kd M 1 x0 then ((pm_oV (pm_C mX1_start [.ref x0, .int 2, .int 2] M)).bind fun m1 => 
    if 16 ≤ x1 then ((pm_pL m1 1 2 x0 2).bind fun m2 => pm_res mX1_startCorner 28 [(0, .ref x0), (1, .int x1), (2, .int 0)] [] m2)
    else (bif pm_kd m1 1 x0 then ((pm_oV (pm_C mX1_addSure [.ref x0, .int x1, .int 1] m1)).bind fun m3 => some (.null, m3)) else none)) else none := (pm_xeqC mX1_startCorner c_X1_startCorner d_X1_startCorner rfl rfl 400 _ M).trans rfl
set_option maxRecDepth 100000 in
set_option maxHeartbeats 4000000 in
theorem e_X1_startCorner_28 (M : pm_M) (x0 : Nat) (x1 : Int32) (x2 : Int32) : pm_res mX1_startCorner 28 [(0, .ref x0), (1, .int x1), (2, .int x2)] [] M = 
    if 2 ≤ x2 then (some (.null, M))
    else (pm_res mX1_startCorner 35 [(0, .ref x0), (1, .int x1), (2, .int x2), (3, .int 0)] [] M) := (pm_xeq mX1_startCorner c_X1_startCorner d_X1_startCorner rfl rfl 400 28 _ _ M).trans rfl
set_option maxRecDepth 100000 in
set_option maxHeartbeats 4000000 in
theorem e_X1_startCorner_35 (M : pm_M) (x0 : Nat) (x1 : Int32) (x2 : Int32) (x3 : Int32) : pm_res mX1_startCorner 35 [(0, .ref x0), (1, .int x1), (2, .int x2), (3, .int x3)] [] M = 
    if 2 ≤ x3 then (pm_res mX1_startCorner 28 [(0, .ref x0), (1, .int x1), (2, .int (x2 + 1))] [] M)
    else ((pm_oI (pm_C mX6_digit [.int x1, .int 2, .int 2] M)).bind fun q1 => (pm_oI (pm_C mX6_digit [.int x1, .int 2, .int 1] q1.2)).bind fun q2 => (pm_oI (pm_C mX6_digit [.int x1, .int 2, .int 0] q2.2)).bind fun q3 => (pm_gR q3.2 1 3 x0).bind fun g4 => (pm_oI (pm_C mX6_spot [.int x2, .int x3, .int 0, .int (pm_rem ((((x2 * x3) + (q1.1 * x2)) + (q2.1 * x3)) + q3.1) 2)] q3.2)).bind fun q5 => (pm_sL q5.2 g4 q5.1 1).bind fun m6 => (pm_gR m6 1 3 x0).bind fun g7 => (pm_oI (pm_C mX6_spot [.int x2, .int x3, .int 1, .int (1 - (pm_rem ((((x2 * x3) + (q1.1 * x2)) + (q2.1 * x3)) + q3.1) 2))] m6)).bind fun q8 => (pm_sL q8.2 g7 q8.1 1).bind fun m9 => pm_res mX1_startCorner 35 [(0, .ref x0), (1, .int x1), (2, .int x2), (3, .int (x3 + 1))] [] m9) := (pm_xeq mX1_startCorner c_X1_startCorner d_X1_startCorner rfl rfl 400 35 _ _ M).trans rfl
set_option maxRecDepth 100000 in
set_option maxHeartbeats 4000000 in
theorem e_X1_startMix (M : pm_M) (x0 : Nat) (x1 : Nat) (x2 : Nat) : pm_C mX1_startMix [.ref x0, .ref x1, .ref x2] M = (pm_gI M 3 0 x1).bind fun g1 => (pm_gI M 3 1 x1).bind fun g2 => bif pm_kd M 1 x0 then ((pm_oV (pm_C mX1_start [.ref x0, .int g1, .int g2] M)).bind fun m3 => pm_res mX1_startMix 14 [(0, .ref x0), (2, .ref x2), (3, .int 0)] [] m3) else none := (pm_xeqC mX1_startMix c_X1_startMix d_X1_startMix rfl rfl 400 _ M).trans rfl
set_option maxRecDepth 100000 in
set_option maxHeartbeats 4000000 in
theorem e_X1_startMix_14 (M : pm_M) (x0 : Nat) (x2 : Nat) (x3 : Int32) : pm_res mX1_startMix 14 [(0, .ref x0), (2, .ref x2), (3, .int x3)] [] M = (pm_gI M 4 2 x2).bind fun g1 => 
    if g1 ≤ x3 then (some (.null, M))
    else ((pm_gR M 4 0 x2).bind fun g2 => (pm_aI M g2 x3).bind fun g3 => (pm_gR M 4 1 x2).bind fun g4 => (pm_aI M g4 x3).bind fun g5 => bif pm_kd M 1 x0 then ((pm_oV (pm_C mX1_addSure [.ref x0, .int g3, .int g5] M)).bind fun m6 => pm_res mX1_startMix 14 [(0, .ref x0), (2, .ref x2), (3, .int (x3 + 1))] [] m6) else none) := (pm_xeq mX1_startMix c_X1_startMix d_X1_startMix rfl rfl 400 14 _ _ M).trans rfl
set_option maxRecDepth 100000 in
set_option maxHeartbeats 4000000 in
theorem e_X1_startWired (M : pm_M) (x0 : Nat) (x1 : Nat) (x2 : Nat) : pm_C mX1_startWired [.ref x0, .ref x1, .ref x2] M = (pm_gI M 5 0 x1).bind fun g1 => (pm_gI M 5 1 x2).bind fun g2 => bif pm_kd M 1 x0 then ((pm_oV (pm_C mX1_start [.ref x0, .int g1, .int g2] M)).bind fun m3 => (pm_gI m3 5 2 x1).bind fun g4 => (pm_gI m3 5 2 x2).bind fun g5 => (pm_pL m3 1 2 x0 (g4.toInt64 * g5.toInt64)).bind fun m6 => pm_res mX1_startWired 29 [(0, .ref x0), (1, .ref x1), (2, .ref x2), (3, .int 0)] [] m6) else none := (pm_xeqC mX1_startWired c_X1_startWired d_X1_startWired rfl rfl 400 _ M).trans rfl
set_option maxRecDepth 100000 in
set_option maxHeartbeats 4000000 in
theorem e_X1_startWired_29 (M : pm_M) (x0 : Nat) (x1 : Nat) (x2 : Nat) (x3 : Int32) : pm_res mX1_startWired 29 [(0, .ref x0), (1, .ref x1), (2, .ref x2), (3, .int x3)] [] M = 
    if 9 ≤ x3 then (some (.null, M))
    else (pm_res mX1_startWired 38 [(0, .ref x0), (1, .ref x1), (2, .ref x2), (3, .int x3), (4, .int 0)] [] M) := (pm_xeq mX1_startWired c_X1_startWired d_X1_startWired rfl rfl 400 29 _ _ M).trans rfl
set_option maxRecDepth 100000 in
set_option maxHeartbeats 4000000 in
theorem e_X1_startWired_38 (M : pm_M) (x0 : Nat) (x1 : Nat) (x2 : Nat) (x3 : Int32) (x4 : Int32) : pm_res mX1_startWired 38 [(0, .ref x0), (1, .ref x1), (2, .ref x2), (3, .int x3), (4, .int x4)] [] M = 
    if 9 ≤ x4 then (pm_res mX1_startWired 29 [(0, .ref x0), (1, .ref x1), (2, .ref x2), (3, .int (x3 + 1))] [] M)
    else ((pm_gR M 5 3 x1).bind fun g1 => (pm_aI M g1 ((9 * x3) + x4)).bind fun g2 => pm_res mX1_startWired 63 [(0, .ref x0), (1, .ref x1), (2, .ref x2), (3, .int x3), (4, .int x4), (5, .long g2.toInt64), (7, .int 0)] [] M) := (pm_xeq mX1_startWired c_X1_startWired d_X1_startWired rfl rfl 400 38 _ _ M).trans rfl
set_option maxRecDepth 100000 in
set_option maxHeartbeats 4000000 in
theorem e_X1_startWired_63 (M : pm_M) (x0 : Nat) (x1 : Nat) (x2 : Nat) (x3 : Int32) (x4 : Int32) (x5 : Int64) (x7 : Int32) : pm_res mX1_startWired 63 [(0, .ref x0), (1, .ref x1), (2, .ref x2), (3, .int x3), (4, .int x4), (5, .long x5), (7, .int x7)] [] M = 
    if 9 ≤ x7 then (pm_res mX1_startWired 38 [(0, .ref x0), (1, .ref x1), (2, .ref x2), (3, .int x3), (4, .int (x4 + 1))] [] M)
    else ((pm_gR M 1 3 x0).bind fun g1 => (pm_aL M g1 ((9 * x3) + x7)).bind fun g2 => (pm_gR M 5 3 x2).bind fun g3 => (pm_aI M g3 ((9 * x4) + x7)).bind fun g4 => (pm_sL M g1 ((9 * x3) + x7) (g2 + (x5 * g4.toInt64))).bind fun m5 => pm_res mX1_startWired 63 [(0, .ref x0), (1, .ref x1), (2, .ref x2), (3, .int x3), (4, .int x4), (5, .long x5), (7, .int (x7 + 1))] [] m5) := (pm_xeq mX1_startWired c_X1_startWired d_X1_startWired rfl rfl 400 63 _ _ M).trans rfl
set_option maxRecDepth 100000 in
set_option maxHeartbeats 4000000 in
theorem e_X1_startBlended (M : pm_M) (x0 : Nat) (x1 : Nat) (x2 : Nat) (x3 : Int32) (x4 : Int32) : pm_C mX1_startBlended [.ref x0, .ref x1, .ref x2, .int x3, .int x4] M = (pm_gI M 5 0 x1).bind fun g1 => (pm_gI M 5 1 x1).bind fun g2 => bif pm_kd M 1 x0 then ((pm_oV (pm_C mX1_start [.ref x0, .int g1, .int g2] M)).bind fun m3 => (pm_gI m3 5 2 x1).bind fun g4 => (pm_gI m3 5 2 x2).bind fun g5 => (pm_pL m3 1 2 x0 ((((x3 + x4)).toInt64 * g4.toInt64) * g5.toInt64)).bind fun m6 => pm_res mX1_startBlended 36 [(0, .ref x0), (1, .ref x1), (2, .ref x2), (3, .int x3), (4, .int x4), (5, .int 0)] [] m6) else none := (pm_xeqC mX1_startBlended c_X1_startBlended d_X1_startBlended rfl rfl 400 _ M).trans rfl
set_option maxRecDepth 100000 in
set_option maxHeartbeats 4000000 in
theorem e_X1_startBlended_36 (M : pm_M) (x0 : Nat) (x1 : Nat) (x2 : Nat) (x3 : Int32) (x4 : Int32) (x5 : Int32) : pm_res mX1_startBlended 36 [(0, .ref x0), (1, .ref x1), (2, .ref x2), (3, .int x3), (4, .int x4), (5, .int x5)] [] M = 
    if 81 ≤ x5 then (some (.null, M))
    else ((pm_gR M 1 3 x0).bind fun g1 => (pm_gR M 5 3 x1).bind fun g2 => (pm_aI M g2 x5).bind fun g3 => (pm_gI M 5 2 x2).bind fun g4 => (pm_gR M 5 3 x2).bind fun g5 => (pm_aI M g5 x5).bind fun g6 => (pm_gI M 5 2 x1).bind fun g7 => (pm_sL M g1 x5 (((x3.toInt64 * g3.toInt64) * g4.toInt64) + ((x4.toInt64 * g6.toInt64) * g7.toInt64))).bind fun m8 => pm_res mX1_startBlended 36 [(0, .ref x0), (1, .ref x1), (2, .ref x2), (3, .int x3), (4, .int x4), (5, .int (x5 + 1))] [] m8) := (pm_xeq mX1_startBlended c_X1_startBlended d_X1_startBlended rfl rfl 400 36 _ _ M).trans rfl
set_option maxRecDepth 100000 in
set_option maxHeartbeats 4000000 in
theorem e_X1_startParity (M : pm_M) (x0 : Nat) (x1 : Nat) (x2 : Nat) : pm_C mX1_startParity [.ref x0, .ref x1, .ref x2] M = (pm_gI M 5 0 x1).bind fun g1 => bif pm_kd M 1 x0 then ((pm_oV (pm_C mX1_start [.ref x0, .int g1, .int 2] M)).bind fun m2 => (pm_gI m2 5 2 x1).bind fun g3 => (pm_gI m2 5 2 x2).bind fun g4 => (pm_pL m2 1 2 x0 (g3.toInt64 * g4.toInt64)).bind fun m5 => pm_res mX1_startParity 26 [(0, .ref x0), (1, .ref x1), (2, .ref x2), (3, .int 0)] [] m5) else none := (pm_xeqC mX1_startParity c_X1_startParity d_X1_startParity rfl rfl 400 _ M).trans rfl
set_option maxRecDepth 100000 in
set_option maxHeartbeats 4000000 in
theorem e_X1_startParity_26 (M : pm_M) (x0 : Nat) (x1 : Nat) (x2 : Nat) (x3 : Int32) : pm_res mX1_startParity 26 [(0, .ref x0), (1, .ref x1), (2, .ref x2), (3, .int x3)] [] M = 
    if 9 ≤ x3 then (some (.null, M))
    else (pm_res mX1_startParity 35 [(0, .ref x0), (1, .ref x1), (2, .ref x2), (3, .int x3), (4, .int 0)] [] M) := (pm_xeq mX1_startParity c_X1_startParity d_X1_startParity rfl rfl 400 26 _ _ M).trans rfl
set_option maxRecDepth 100000 in
set_option maxHeartbeats 4000000 in
theorem e_X1_startParity_35 (M : pm_M) (x0 : Nat) (x1 : Nat) (x2 : Nat) (x3 : Int32) (x4 : Int32) : pm_res mX1_startParity 35 [(0, .ref x0), (1, .ref x1), (2, .ref x2), (3, .int x3), (4, .int x4)] [] M = 
    if 4 ≤ x4 then (pm_res mX1_startParity 26 [(0, .ref x0), (1, .ref x1), (2, .ref x2), (3, .int (x3 + 1))] [] M)
    else (pm_res mX1_startParity 44 [(0, .ref x0), (1, .ref x1), (2, .ref x2), (3, .int x3), (4, .int x4), (5, .int 0)] [] M) := (pm_xeq mX1_startParity c_X1_startParity d_X1_startParity rfl rfl 400 35 _ _ M).trans rfl
set_option maxRecDepth 100000 in
set_option maxHeartbeats 4000000 in
theorem e_X1_startParity_44 (M : pm_M) (x0 : Nat) (x1 : Nat) (x2 : Nat) (x3 : Int32) (x4 : Int32) (x5 : Int32) : pm_res mX1_startParity 44 [(0, .ref x0), (1, .ref x1), (2, .ref x2), (3, .int x3), (4, .int x4), (5, .int x5)] [] M = 
    if 4 ≤ x5 then (pm_res mX1_startParity 35 [(0, .ref x0), (1, .ref x1), (2, .ref x2), (3, .int x3), (4, .int (x4 + 1))] [] M)
    else ((pm_gR M 1 3 x0).bind fun g1 => (pm_oI (pm_C mX1_rowOfBits [.int (x4 ^^^ x5)] M)).bind fun q2 => (pm_aL q2.2 g1 ((9 * x3) + q2.1)).bind fun g3 => (pm_gR q2.2 5 3 x1).bind fun g4 => (pm_oI (pm_C mX1_rowOfBits [.int x4] q2.2)).bind fun q5 => (pm_aI q5.2 g4 ((9 * x3) + q5.1)).bind fun g6 => (pm_gR q5.2 5 3 x2).bind fun g7 => (pm_oI (pm_C mX1_rowOfBits [.int x5] q5.2)).bind fun q8 => (pm_aI q8.2 g7 ((9 * x3) + q8.1)).bind fun g9 => (pm_sL q8.2 g1 ((9 * x3) + q2.1) (g3 + (g6.toInt64 * g9.toInt64))).bind fun m10 => pm_res mX1_startParity 44 [(0, .ref x0), (1, .ref x1), (2, .ref x2), (3, .int x3), (4, .int x4), (5, .int (x5 + 1))] [] m10) := (pm_xeq mX1_startParity c_X1_startParity d_X1_startParity rfl rfl 400 44 _ _ M).trans rfl
set_option maxRecDepth 100000 in
set_option maxHeartbeats 4000000 in
theorem e_X1_rowOfBits (M : pm_M) (x0 : Int32) : pm_C mX1_rowOfBits [.int x0] M = some (.int ((3 * (x0 / 2)) + (pm_rem x0 2)), M) := (pm_xeqC mX1_rowOfBits c_X1_rowOfBits d_X1_rowOfBits rfl rfl 400 _ M).trans rfl
set_option maxRecDepth 100000 in
set_option maxHeartbeats 4000000 in
theorem e_X1_reduce (M : pm_M) (x0 : Nat) : pm_C mX1_reduce [.ref x0] M = (pm_gL M 1 2 x0).bind fun g1 => pm_res mX1_reduce 7 [(0, .ref x0), (1, .long g1), (3, .int 0)] [] M := (pm_xeqC mX1_reduce c_X1_reduce d_X1_reduce rfl rfl 400 _ M).trans rfl
set_option maxRecDepth 100000 in
set_option maxHeartbeats 4000000 in
theorem e_X1_reduce_7 (M : pm_M) (x0 : Nat) (x1 : Int64) (x3 : Int32) : pm_res mX1_reduce 7 [(0, .ref x0), (1, .long x1), (3, .int x3)] [] M = 
    if 81 ≤ x3 then (pm_res mX1_reduce 36 [(0, .ref x0), (1, .long x1)] [] M)
    else (
      if (lg_cmp x1 1) = 0 then (pm_res mX1_reduce 36 [(0, .ref x0), (1, .long x1)] [] M)
      else ((pm_gR M 1 3 x0).bind fun g1 => (pm_aL M g1 x3).bind fun g2 => (pm_oL (pm_C mX6_commonDivisor [.long x1, .long g2] M)).bind fun q3 => pm_res mX1_reduce 7 [(0, .ref x0), (1, .long q3.1), (3, .int (x3 + 1))] [] q3.2)) := (pm_xeq mX1_reduce c_X1_reduce d_X1_reduce rfl rfl 400 7 _ _ M).trans rfl
set_option maxRecDepth 100000 in
set_option maxHeartbeats 4000000 in
theorem e_X1_reduce_36 (M : pm_M) (x0 : Nat) (x1 : Int64) : pm_res mX1_reduce 36 [(0, .ref x0), (1, .long x1)] [] M = 
    if 0 < (lg_cmp x1 1) then ((pm_gL M 1 2 x0).bind fun g1 => pm_nz (decide (x1 = 0)) <| (pm_pL M 1 2 x0 (g1 / x1)).bind fun m2 => pm_res mX1_reduce 55 [(0, .ref x0), (1, .long x1), (3, .int 0)] [] m2)
    else (some (.null, M)) := (pm_xeq mX1_reduce c_X1_reduce d_X1_reduce rfl rfl 400 36 _ _ M).trans rfl
set_option maxRecDepth 100000 in
set_option maxHeartbeats 4000000 in
theorem e_X1_reduce_55 (M : pm_M) (x0 : Nat) (x1 : Int64) (x3 : Int32) : pm_res mX1_reduce 55 [(0, .ref x0), (1, .long x1), (3, .int x3)] [] M = 
    if 81 ≤ x3 then (some (.null, M))
    else ((pm_gR M 1 3 x0).bind fun g1 => (pm_aL M g1 x3).bind fun g2 => pm_nz (decide (x1 = 0)) <| (pm_sL M g1 x3 (g2 / x1)).bind fun m3 => pm_res mX1_reduce 55 [(0, .ref x0), (1, .long x1), (3, .int (x3 + 1))] [] m3) := (pm_xeq mX1_reduce c_X1_reduce d_X1_reduce rfl rfl 400 55 _ _ M).trans rfl
set_option maxRecDepth 100000 in
set_option maxHeartbeats 4000000 in
theorem e_X1_firstOtherChance (M : pm_M) (x0 : Nat) (x1 : Nat) : pm_C mX1_firstOtherChance [.ref x0, .ref x1] M = pm_res mX1_firstOtherChance 2 [(0, .ref x0), (1, .ref x1), (2, .int 0)] [] M := (pm_xeqC mX1_firstOtherChance c_X1_firstOtherChance d_X1_firstOtherChance rfl rfl 400 _ M).trans rfl
set_option maxRecDepth 100000 in
set_option maxHeartbeats 4000000 in
theorem e_X1_firstOtherChance_2 (M : pm_M) (x0 : Nat) (x1 : Nat) (x2 : Int32) : pm_res mX1_firstOtherChance 2 [(0, .ref x0), (1, .ref x1), (2, .int x2)] [] M = 
    if 81 ≤ x2 then (some (.int (-1), M))
    else ((pm_gR M 1 3 x0).bind fun g1 => (pm_aL M g1 x2).bind fun g2 => (pm_gI M 5 2 x1).bind fun g3 => (pm_gL M 1 2 x0).bind fun g4 => (pm_gR M 5 3 x1).bind fun g5 => (pm_aI M g5 x2).bind fun g6 => 
      if (lg_cmp (g2 * g3.toInt64) (g4 * g6.toInt64)) = 0 then (pm_res mX1_firstOtherChance 2 [(0, .ref x0), (1, .ref x1), (2, .int (x2 + 1))] [] M)
      else (some (.int x2, M))) := (pm_xeq mX1_firstOtherChance c_X1_firstOtherChance d_X1_firstOtherChance rfl rfl 400 2 _ _ M).trans rfl
set_option maxRecDepth 100000 in
set_option maxHeartbeats 4000000 in
theorem e_X1_putInto (M : pm_M) (x0 : Nat) (x1 : Nat) : pm_C mX1_putInto [.ref x0, .ref x1] M = (pm_gI M 1 0 x0).bind fun g1 => (pm_gI M 1 1 x0).bind fun g2 => (pm_gL M 1 2 x0).bind fun g3 => bif pm_kd M 5 x1 then ((pm_oV (pm_C mX5_restart [.ref x1, .int g1, .int g2, .int g3.toInt32] M)).bind fun m4 => pm_res mX1_putInto 19 [(0, .ref x0), (1, .ref x1), (2, .int 0)] [] m4) else none := (pm_xeqC mX1_putInto c_X1_putInto d_X1_putInto rfl rfl 400 _ M).trans rfl
set_option maxRecDepth 100000 in
set_option maxHeartbeats 4000000 in
theorem e_X1_putInto_19 (M : pm_M) (x0 : Nat) (x1 : Nat) (x2 : Int32) : pm_res mX1_putInto 19 [(0, .ref x0), (1, .ref x1), (2, .int x2)] [] M = 
    if 81 ≤ x2 then (some (.null, M))
    else ((pm_gR M 5 3 x1).bind fun g1 => (pm_gR M 1 3 x0).bind fun g2 => (pm_aL M g2 x2).bind fun g3 => (pm_sI M g1 x2 g3.toInt32).bind fun m4 => pm_res mX1_putInto 19 [(0, .ref x0), (1, .ref x1), (2, .int (x2 + 1))] [] m4) := (pm_xeq mX1_putInto c_X1_putInto d_X1_putInto rfl rfl 400 19 _ _ M).trans rfl
set_option maxRecDepth 100000 in
set_option maxHeartbeats 4000000 in
theorem e_X2_init (M : pm_M) (x0 : Nat) : pm_C mX2_init [.ref x0] M = (pm_pR (pm_new M (10, 6)) 2 0 x0 (M).1.length).bind fun m1 => (pm_pR (pm_new m1 (8, 6)) 2 1 x0 (m1).1.length).bind fun m2 => pm_res mX2_init 23 [(0, .ref x0), (1, .int 0)] [] m2 := (pm_xeqC mX2_init c_X2_init d_X2_init rfl rfl 400 _ M).trans rfl
set_option maxRecDepth 100000 in
set_option maxHeartbeats 4000000 in
theorem e_X2_init_23 (M : pm_M) (x0 : Nat) (x1 : Int32) : pm_res mX2_init 23 [(0, .ref x0), (1, .int x1)] [] M = 
    if 6 ≤ x1 then (some (.null, M))
    else ((pm_gR M 2 0 x0).bind fun g1 => bif pm_kd (pm_new M (5, 4)) 5 (M).1.length then ((pm_oV (pm_C mX5_init [.ref (M).1.length] (pm_new M (5, 4)))).bind fun m2 => (pm_sR m2 g1 x1 (M).1.length).bind fun m3 => pm_res mX2_init 23 [(0, .ref x0), (1, .int (x1 + 1))] [] m3) else none) := (pm_xeq mX2_init c_X2_init d_X2_init rfl rfl 400 23 _ _ M).trans rfl
set_option maxRecDepth 100000 in
set_option maxHeartbeats 4000000 in
theorem e_X2_keep (M : pm_M) (x0 : Nat) (x1 : Int32) (x2 : Nat) : pm_C mX2_keep [.ref x0, .int x1, .ref x2] M = (pm_gR M 2 0 x0).bind fun g1 => (pm_gI M 2 2 x0).bind fun g2 => (pm_aR M g1 g2).bind fun g3 => bif pm_kd M 5 g3 then ((pm_oV (pm_C mX5_copyFrom [.ref g3, .ref x2] M)).bind fun m4 => (pm_gR m4 2 1 x0).bind fun g5 => (pm_gI m4 2 2 x0).bind fun g6 => (pm_sI m4 g5 g6 x1).bind fun m7 => (pm_gI m7 2 2 x0).bind fun g8 => (pm_pI m7 2 2 x0 (pm_rem (g8 + 1) 6)).bind fun m9 => (pm_gI m9 2 3 x0).bind fun g10 => (pm_pI m9 2 3 x0 (pm_min 6 (g10 + 1))).bind fun m11 => some (.null, m11)) else none := (pm_xeqC mX2_keep c_X2_keep d_X2_keep rfl rfl 400 _ M).trans rfl
set_option maxRecDepth 100000 in
set_option maxHeartbeats 4000000 in
theorem e_X2_takeBack (M : pm_M) (x0 : Nat) (x1 : Nat) : pm_C mX2_takeBack [.ref x0, .ref x1] M = (pm_gI M 2 2 x0).bind fun g1 => (pm_pI M 2 2 x0 (pm_rem ((g1 + 6) - 1) 6)).bind fun m2 => (pm_gR m2 2 1 x0).bind fun g3 => (pm_gI m2 2 2 x0).bind fun g4 => (pm_aI m2 g3 g4).bind fun g5 => (pm_aR m2 x1 g5).bind fun g6 => (pm_gR m2 2 0 x0).bind fun g7 => (pm_gI m2 2 2 x0).bind fun g8 => (pm_aR m2 g7 g8).bind fun g9 => bif pm_kd m2 5 g6 then ((pm_oV (pm_C mX5_copyFrom [.ref g6, .ref g9] m2)).bind fun m10 => (pm_gI m10 2 3 x0).bind fun g11 => (pm_pI m10 2 3 x0 (g11 - 1)).bind fun m12 => some (.null, m12)) else none := (pm_xeqC mX2_takeBack c_X2_takeBack d_X2_takeBack rfl rfl 400 _ M).trans rfl
set_option maxRecDepth 100000 in
set_option maxHeartbeats 4000000 in
theorem e_X3_init (M : pm_M) (x0 : Nat) : pm_C mX3_init [.ref x0] M = (pm_pI M 3 0 x0 2).bind fun m1 => (pm_pI m1 3 1 x0 2).bind fun m2 => (pm_pR (pm_new m2 (8, 81)) 3 2 x0 (m2).1.length).bind fun m3 => (pm_pR (pm_new m3 (8, 3)) 3 11 x0 (m3).1.length).bind fun m4 => some (.null, m4) := (pm_xeqC mX3_init c_X3_init d_X3_init rfl rfl 400 _ M).trans rfl
set_option maxRecDepth 100000 in
set_option maxHeartbeats 4000000 in
theorem e_X3_restart (M : pm_M) (x0 : Nat) (x1 : Int32) (x2 : Int32) : pm_C mX3_restart [.ref x0, .int x1, .int x2] M = (pm_pI M 3 0 x0 x1).bind fun m1 => (pm_pI m1 3 1 x0 x2).bind fun m2 => (pm_gR m2 3 2 x0).bind fun g3 => (pm_oV (pm_C mJ7_fill_53178 [.ref g3, .int 0] m2)).bind fun m4 => some (.null, m4) := (pm_xeqC mX3_restart c_X3_restart d_X3_restart rfl rfl 400 _ M).trans rfl
set_option maxRecDepth 100000 in
set_option maxHeartbeats 4000000 in
theorem e_X3_becomeCornerLaw (M : pm_M) (x0 : Nat) (x1 : Int32) : pm_C mX3_becomeCornerLaw [.ref x0, .int x1] M = bif pm_kd M 3 x0 then ((pm_oV (pm_C mX3_restart [.ref x0, .int 2, .int 2] M)).bind fun m1 => pm_res mX3_becomeCornerLaw 8 [(0, .ref x0), (1, .int x1), (2, .int 0)] [] m1) else none := (pm_xeqC mX3_becomeCornerLaw c_X3_becomeCornerLaw d_X3_becomeCornerLaw rfl rfl 400 _ M).trans rfl
set_option maxRecDepth 100000 in
set_option maxHeartbeats 4000000 in
theorem e_X3_becomeCornerLaw_8 (M : pm_M) (x0 : Nat) (x1 : Int32) (x2 : Int32) : pm_res mX3_becomeCornerLaw 8 [(0, .ref x0), (1, .int x1), (2, .int x2)] [] M = 
    if 4 ≤ x2 then (some (.null, M))
    else (
      if x2 = (x1 / 2) then (pm_res mX3_becomeCornerLaw 25 [(0, .ref x0), (1, .int x1), (2, .int x2)] [.int 1] M)
      else (pm_res mX3_becomeCornerLaw 25 [(0, .ref x0), (1, .int x1), (2, .int x2)] [.int 0] M)) := (pm_xeq mX3_becomeCornerLaw c_X3_becomeCornerLaw d_X3_becomeCornerLaw rfl rfl 400 8 _ _ M).trans rfl
set_option maxRecDepth 100000 in
set_option maxHeartbeats 4000000 in
theorem e_X3_becomeCornerLaw_25 (M : pm_M) (x0 : Nat) (x1 : Int32) (x2 : Int32) (y0 : Int32) : pm_res mX3_becomeCornerLaw 25 [(0, .ref x0), (1, .int x1), (2, .int x2)] [.int y0] M = 
    if (pm_rem x1 2) = 1 then (
      if y0 = 1 then (pm_res mX3_becomeCornerLaw 45 [(0, .ref x0), (1, .int x1), (2, .int x2)] [.int 0] M)
      else (pm_res mX3_becomeCornerLaw 45 [(0, .ref x0), (1, .int x1), (2, .int x2)] [.int 1] M))
    else (
      if y0 = 0 then (pm_res mX3_becomeCornerLaw 45 [(0, .ref x0), (1, .int x1), (2, .int x2)] [.int 0] M)
      else (pm_res mX3_becomeCornerLaw 45 [(0, .ref x0), (1, .int x1), (2, .int x2)] [.int 1] M)) := (pm_xeq mX3_becomeCornerLaw c_X3_becomeCornerLaw d_X3_becomeCornerLaw rfl rfl 400 25 _ _ M).trans rfl
set_option maxRecDepth 100000 in
set_option maxHeartbeats 4000000 in
theorem e_X3_becomeCornerLaw_45 (M : pm_M) (x0 : Nat) (x1 : Int32) (x2 : Int32) (y0 : Int32) : pm_res mX3_becomeCornerLaw 45 [(0, .ref x0), (1, .int x1), (2, .int x2)] [.int y0] M = 
    if y0 = 0 then (pm_res mX3_becomeCornerLaw 55 [(0, .ref x0), (1, .int x1), (2, .int x2)] [.int 1] M)
    else (pm_res mX3_becomeCornerLaw 55 [(0, .ref x0), (1, .int x1), (2, .int x2)] [.int (-1)] M) := (pm_xeq mX3_becomeCornerLaw c_X3_becomeCornerLaw d_X3_becomeCornerLaw rfl rfl 400 45 _ _ M).trans rfl
set_option maxRecDepth 100000 in
set_option maxHeartbeats 4000000 in
theorem e_X3_becomeCornerLaw_55 (M : pm_M) (x0 : Nat) (x1 : Int32) (x2 : Int32) (y0 : Int32) : pm_res mX3_becomeCornerLaw 55 [(0, .ref x0), (1, .int x1), (2, .int x2)] [.int y0] M = (pm_gR M 3 2 x0).bind fun g1 => (pm_oI (pm_C mX6_spot [.int (x2 / 2), .int (pm_rem x2 2), .int 0, .int 0] M)).bind fun q2 => (pm_sI q2.2 g1 q2.1 y0).bind fun m3 => (pm_gR m3 3 2 x0).bind fun g4 => (pm_oI (pm_C mX6_spot [.int (x2 / 2), .int (pm_rem x2 2), .int 1, .int 1] m3)).bind fun q5 => (pm_sI q5.2 g4 q5.1 y0).bind fun m6 => (pm_gR m6 3 2 x0).bind fun g7 => (pm_oI (pm_C mX6_spot [.int (x2 / 2), .int (pm_rem x2 2), .int 0, .int 1] m6)).bind fun q8 => (pm_sI q8.2 g7 q8.1 (-y0)).bind fun m9 => (pm_gR m9 3 2 x0).bind fun g10 => (pm_oI (pm_C mX6_spot [.int (x2 / 2), .int (pm_rem x2 2), .int 1, .int 0] m9)).bind fun q11 => (pm_sI q11.2 g10 q11.1 (-y0)).bind fun m12 => pm_res mX3_becomeCornerLaw 8 [(0, .ref x0), (1, .int x1), (2, .int (x2 + 1))] [] m12 := (pm_xeq mX3_becomeCornerLaw c_X3_becomeCornerLaw d_X3_becomeCornerLaw rfl rfl 400 55 _ _ M).trans rfl
set_option maxRecDepth 100000 in
set_option maxHeartbeats 4000000 in
theorem e_X3_isTwoByTwo (M : pm_M) (x0 : Nat) : pm_C mX3_isTwoByTwo [.ref x0] M = (pm_gI M 3 0 x0).bind fun g1 => 
    if g1 = 2 then ((pm_gI M 3 1 x0).bind fun g2 => 
      if g2 = 2 then (some (.int 1, M))
      else (some (.int 0, M)))
    else (some (.int 0, M)) := (pm_xeqC mX3_isTwoByTwo c_X3_isTwoByTwo d_X3_isTwoByTwo rfl rfl 400 _ M).trans rfl
set_option maxRecDepth 100000 in
set_option maxHeartbeats 4000000 in
theorem e_X3_hasRows (M : pm_M) (x0 : Nat) (x1 : Int32) (x2 : Int32) : pm_C mX3_hasRows [.ref x0, .int x1, .int x2] M = (pm_gI M 3 0 x0).bind fun g1 => (pm_oI (pm_C mX6_isRow [.int x1, .int g1] M)).bind fun q2 => 
    if q2.1 = 0 then (some (.int 0, q2.2))
    else ((pm_gI q2.2 3 1 x0).bind fun g3 => (pm_oI (pm_C mX6_isRow [.int x2, .int g3] q2.2)).bind fun q4 => 
      if q4.1 = 0 then (some (.int 0, q4.2))
      else (some (.int 1, q4.2))) := (pm_xeqC mX3_hasRows c_X3_hasRows d_X3_hasRows rfl rfl 400 _ M).trans rfl
set_option maxRecDepth 100000 in
set_option maxHeartbeats 4000000 in
theorem e_X3_fits (M : pm_M) (x0 : Nat) (x1 : Nat) : pm_C mX3_fits [.ref x0, .ref x1] M = (pm_gI M 5 0 x1).bind fun g1 => (pm_gI M 3 0 x0).bind fun g2 => 
    if g1 = g2 then ((pm_gI M 5 1 x1).bind fun g3 => (pm_gI M 3 1 x0).bind fun g4 => 
      if g3 = g4 then (some (.int 1, M))
      else (some (.int 0, M)))
    else (some (.int 0, M)) := (pm_xeqC mX3_fits c_X3_fits d_X3_fits rfl rfl 400 _ M).trans rfl
set_option maxRecDepth 100000 in
set_option maxHeartbeats 4000000 in
theorem e_X3_sures (M : pm_M) (x0 : Nat) : pm_C mX3_sures [.ref x0] M = (pm_gI M 3 0 x0).bind fun g1 => (pm_gI M 3 1 x0).bind fun g2 => (pm_oI (pm_C mX6_sureTables [.int g1, .int g2] M)).bind fun q3 => some (.int q3.1, q3.2) := (pm_xeqC mX3_sures c_X3_sures d_X3_sures rfl rfl 400 _ M).trans rfl
set_option maxRecDepth 100000 in
set_option maxHeartbeats 4000000 in
theorem e_X3_allQuestions (M : pm_M) (x0 : Nat) : pm_C mX3_allQuestions [.ref x0] M = (pm_gI M 3 0 x0).bind fun g1 => (pm_oI (pm_C mX6_power [.int 2, .int g1] M)).bind fun q2 => some (.int (q2.1 - 1), q2.2) := (pm_xeqC mX3_allQuestions c_X3_allQuestions d_X3_allQuestions rfl rfl 400 _ M).trans rfl
set_option maxRecDepth 100000 in
set_option maxHeartbeats 4000000 in
theorem e_X3_allWeightsWithin (M : pm_M) (x0 : Nat) (x1 : Int32) (x2 : Int32) : pm_C mX3_allWeightsWithin [.ref x0, .int x1, .int x2] M = pm_res mX3_allWeightsWithin 2 [(0, .ref x0), (1, .int x1), (2, .int x2), (3, .int 0)] [] M := (pm_xeqC mX3_allWeightsWithin c_X3_allWeightsWithin d_X3_allWeightsWithin rfl rfl 400 _ M).trans rfl
set_option maxRecDepth 100000 in
set_option maxHeartbeats 4000000 in
theorem e_X3_allWeightsWithin_2 (M : pm_M) (x0 : Nat) (x1 : Int32) (x2 : Int32) (x3 : Int32) : pm_res mX3_allWeightsWithin 2 [(0, .ref x0), (1, .int x1), (2, .int x2), (3, .int x3)] [] M = 
    if 81 ≤ x3 then (some (.int 1, M))
    else ((pm_gR M 3 2 x0).bind fun g1 => (pm_aI M g1 x3).bind fun g2 => 
      if g2 < x1 then (some (.int 0, M))
      else ((pm_gR M 3 2 x0).bind fun g3 => (pm_aI M g3 x3).bind fun g4 => 
        if g4 ≤ x2 then (pm_res mX3_allWeightsWithin 2 [(0, .ref x0), (1, .int x1), (2, .int x2), (3, .int (x3 + 1))] [] M)
        else (some (.int 0, M)))) := (pm_xeq mX3_allWeightsWithin c_X3_allWeightsWithin d_X3_allWeightsWithin rfl rfl 400 2 _ _ M).trans rfl
set_option maxRecDepth 100000 in
set_option maxHeartbeats 4000000 in
theorem e_X3_sumAt (M : pm_M) (x0 : Nat) (x1 : Nat) : pm_C mX3_sumAt [.ref x0, .ref x1] M = pm_res mX3_sumAt 5 [(0, .ref x0), (1, .ref x1), (2, .long 0), (4, .int 0)] [] M := (pm_xeqC mX3_sumAt c_X3_sumAt d_X3_sumAt rfl rfl 400 _ M).trans rfl
set_option maxRecDepth 100000 in
set_option maxHeartbeats 4000000 in
theorem e_X3_sumAt_5 (M : pm_M) (x0 : Nat) (x1 : Nat) (x2 : Int64) (x4 : Int32) : pm_res mX3_sumAt 5 [(0, .ref x0), (1, .ref x1), (2, .long x2), (4, .int x4)] [] M = 
    if 81 ≤ x4 then (some (.long x2, M))
    else ((pm_gR M 3 2 x0).bind fun g1 => (pm_aI M g1 x4).bind fun g2 => (pm_gR M 5 3 x1).bind fun g3 => (pm_aI M g3 x4).bind fun g4 => pm_res mX3_sumAt 5 [(0, .ref x0), (1, .ref x1), (2, .long (x2 + (g2.toInt64 * g4.toInt64))), (4, .int (x4 + 1))] [] M) := (pm_xeq mX3_sumAt c_X3_sumAt d_X3_sumAt rfl rfl 400 5 _ _ M).trans rfl
set_option maxRecDepth 100000 in
set_option maxHeartbeats 4000000 in
theorem e_X3_sumOver (M : pm_M) (x0 : Nat) (x1 : Nat) : pm_C mX3_sumOver [.ref x0, .ref x1] M = pm_res mX3_sumOver 5 [(0, .ref x0), (1, .ref x1), (2, .long 0), (4, .int 0)] [] M := (pm_xeqC mX3_sumOver c_X3_sumOver d_X3_sumOver rfl rfl 400 _ M).trans rfl
set_option maxRecDepth 100000 in
set_option maxHeartbeats 4000000 in
theorem e_X3_sumOver_5 (M : pm_M) (x0 : Nat) (x1 : Nat) (x2 : Int64) (x4 : Int32) : pm_res mX3_sumOver 5 [(0, .ref x0), (1, .ref x1), (2, .long x2), (4, .int x4)] [] M = 
    if 81 ≤ x4 then (some (.long x2, M))
    else ((pm_al M x1).bind fun g1 => 
      if g1 ≤ x4 then (some (.long x2, M))
      else ((pm_gR M 3 2 x0).bind fun g2 => (pm_aI M g2 x4).bind fun g3 => (pm_aL M x1 x4).bind fun g4 => pm_res mX3_sumOver 5 [(0, .ref x0), (1, .ref x1), (2, .long (x2 + (g3.toInt64 * g4))), (4, .int (x4 + 1))] [] M)) := (pm_xeq mX3_sumOver c_X3_sumOver d_X3_sumOver rfl rfl 400 5 _ _ M).trans rfl
set_option maxRecDepth 100000 in
set_option maxHeartbeats 4000000 in
theorem e_X3_survey (M : pm_M) (x0 : Nat) (x1 : Int32) : pm_C mX3_survey [.ref x0, .int x1] M = (pm_gI M 3 1 x0).bind fun g1 => (pm_gI M 3 0 x0).bind fun g2 => (pm_oI (pm_C mX6_power [.int g1, .int g2] M)).bind fun q3 => pm_res mX3_survey 14 [(0, .ref x0), (1, .int x1), (2, .int q3.1), (3, .int 0)] [] q3.2 := (pm_xeqC mX3_survey c_X3_survey d_X3_survey rfl rfl 400 _ M).trans rfl
set_option maxRecDepth 100000 in
set_option maxHeartbeats 4000000 in
theorem e_X3_survey_14 (M : pm_M) (x0 : Nat) (x1 : Int32) (x2 : Int32) (x3 : Int32) : pm_res mX3_survey 14 [(0, .ref x0), (1, .int x1), (2, .int x2), (3, .int x3)] [] M = 
    if x2 ≤ x3 then (some (.null, M))
    else (bif pm_kd M 3 x0 then ((pm_oV (pm_C mX3_surveyOthers [.ref x0, .int x3, .int x1] M)).bind fun m1 => 
      if x3 = 0 then (pm_res mX3_survey 40 [(0, .ref x0), (1, .int x1), (2, .int x2), (3, .int x3)] [] m1)
      else ((pm_gI m1 3 7 x0).bind fun g2 => (pm_gI m1 3 3 x0).bind fun g3 => 
        if g2 ≤ g3 then ((pm_gI m1 3 7 x0).bind fun g4 => (pm_gI m1 3 3 x0).bind fun g5 => 
          if g4 = g5 then ((pm_gI m1 3 5 x0).bind fun g6 => (pm_gI m1 3 9 x0).bind fun g7 => (pm_pI m1 3 5 x0 (g6 + g7)).bind fun m8 => pm_res mX3_survey 95 [(0, .ref x0), (1, .int x1), (2, .int x2), (3, .int x3)] [] m8)
          else (pm_res mX3_survey 95 [(0, .ref x0), (1, .int x1), (2, .int x2), (3, .int x3)] [] m1))
        else (pm_res mX3_survey 40 [(0, .ref x0), (1, .int x1), (2, .int x2), (3, .int x3)] [] m1))) else none) := (pm_xeq mX3_survey c_X3_survey d_X3_survey rfl rfl 400 14 _ _ M).trans rfl
set_option maxRecDepth 100000 in
set_option maxHeartbeats 4000000 in
theorem e_X3_survey_40 (M : pm_M) (x0 : Nat) (x1 : Int32) (x2 : Int32) (x3 : Int32) : pm_res mX3_survey 40 [(0, .ref x0), (1, .int x1), (2, .int x2), (3, .int x3)] [] M = (pm_gI M 3 7 x0).bind fun g1 => (pm_pI M 3 3 x0 g1).bind fun m2 => (pm_gI m2 3 8 x0).bind fun g3 => (pm_pI m2 3 4 x0 ((x3 * x2) + g3)).bind fun m4 => (pm_gI m4 3 9 x0).bind fun g5 => (pm_pI m4 3 5 x0 g5).bind fun m6 => pm_res mX3_survey 95 [(0, .ref x0), (1, .int x1), (2, .int x2), (3, .int x3)] [] m6 := (pm_xeq mX3_survey c_X3_survey d_X3_survey rfl rfl 400 40 _ _ M).trans rfl
set_option maxRecDepth 100000 in
set_option maxHeartbeats 4000000 in
theorem e_X3_survey_95 (M : pm_M) (x0 : Nat) (x1 : Int32) (x2 : Int32) (x3 : Int32) : pm_res mX3_survey 95 [(0, .ref x0), (1, .int x1), (2, .int x2), (3, .int x3)] [] M = 
    if x3 = 0 then (pm_res mX3_survey 110 [(0, .ref x0), (1, .int x1), (2, .int x2), (3, .int x3)] [] M)
    else ((pm_gI M 3 10 x0).bind fun g1 => (pm_gI M 3 6 x0).bind fun g2 => 
      if g2 ≤ g1 then (pm_res mX3_survey 14 [(0, .ref x0), (1, .int x1), (2, .int x2), (3, .int (x3 + 1))] [] M)
      else (pm_res mX3_survey 110 [(0, .ref x0), (1, .int x1), (2, .int x2), (3, .int x3)] [] M)) := (pm_xeq mX3_survey c_X3_survey d_X3_survey rfl rfl 400 95 _ _ M).trans rfl
set_option maxRecDepth 100000 in
set_option maxHeartbeats 4000000 in
theorem e_X3_survey_110 (M : pm_M) (x0 : Nat) (x1 : Int32) (x2 : Int32) (x3 : Int32) : pm_res mX3_survey 110 [(0, .ref x0), (1, .int x1), (2, .int x2), (3, .int x3)] [] M = (pm_gI M 3 10 x0).bind fun g1 => (pm_pI M 3 6 x0 g1).bind fun m2 => pm_res mX3_survey 14 [(0, .ref x0), (1, .int x1), (2, .int x2), (3, .int (x3 + 1))] [] m2 := (pm_xeq mX3_survey c_X3_survey d_X3_survey rfl rfl 400 110 _ _ M).trans rfl
set_option maxRecDepth 100000 in
set_option maxHeartbeats 4000000 in
theorem e_X3_surveyOthers (M : pm_M) (x0 : Nat) (x1 : Int32) (x2 : Int32) : pm_C mX3_surveyOthers [.ref x0, .int x1, .int x2] M = pm_res mX3_surveyOthers 2 [(0, .ref x0), (1, .int x1), (2, .int x2), (3, .int 0)] [] M := (pm_xeqC mX3_surveyOthers c_X3_surveyOthers d_X3_surveyOthers rfl rfl 400 _ M).trans rfl
set_option maxRecDepth 100000 in
set_option maxHeartbeats 4000000 in
theorem e_X3_surveyOthers_2 (M : pm_M) (x0 : Nat) (x1 : Int32) (x2 : Int32) (x3 : Int32) : pm_res mX3_surveyOthers 2 [(0, .ref x0), (1, .int x1), (2, .int x2), (3, .int x3)] [] M = (pm_gI M 3 0 x0).bind fun g1 => 
    if g1 ≤ x3 then ((pm_pI M 3 7 x0 0).bind fun m2 => (pm_pI m2 3 8 x0 0).bind fun m3 => (pm_pI m3 3 9 x0 1).bind fun m4 => (pm_pI m4 3 10 x0 0).bind fun m5 => pm_res mX3_surveyOthers 56 [(0, .ref x0), (2, .int x2), (3, .int 1), (4, .int 0)] [] m5)
    else ((pm_gR M 3 11 x0).bind fun g6 => (pm_gI M 3 1 x0).bind fun g7 => (pm_oI (pm_C mX6_digit [.int x1, .int g7, .int x3] M)).bind fun q8 => (pm_sI q8.2 g6 x3 q8.1).bind fun m9 => pm_res mX3_surveyOthers 2 [(0, .ref x0), (1, .int x1), (2, .int x2), (3, .int (x3 + 1))] [] m9) := (pm_xeq mX3_surveyOthers c_X3_surveyOthers d_X3_surveyOthers rfl rfl 400 2 _ _ M).trans rfl
set_option maxRecDepth 100000 in
set_option maxHeartbeats 4000000 in
theorem e_X3_surveyOthers_56 (M : pm_M) (x0 : Nat) (x2 : Int32) (x3 : Int32) (x4 : Int32) : pm_res mX3_surveyOthers 56 [(0, .ref x0), (2, .int x2), (3, .int x3), (4, .int x4)] [] M = (pm_gI M 3 0 x0).bind fun g1 => 
    if g1 ≤ x4 then (some (.null, M))
    else (bif pm_kd M 3 x0 then ((pm_oV (pm_C mX3_surveyQuestion [.ref x0, .int x4, .int x2, .int x3] M)).bind fun m2 => (pm_gI m2 3 1 x0).bind fun g3 => pm_res mX3_surveyOthers 56 [(0, .ref x0), (2, .int x2), (3, .int (x3 * g3)), (4, .int (x4 + 1))] [] m2) else none) := (pm_xeq mX3_surveyOthers c_X3_surveyOthers d_X3_surveyOthers rfl rfl 400 56 _ _ M).trans rfl
set_option maxRecDepth 100000 in
set_option maxHeartbeats 4000000 in
theorem e_X3_surveyQuestion (M : pm_M) (x0 : Nat) (x1 : Int32) (x2 : Int32) (x3 : Int32) : pm_C mX3_surveyQuestion [.ref x0, .int x1, .int x2, .int x3] M = bif pm_kd M 3 x0 then ((pm_oI (pm_C mX3_sumOfFirst [.ref x0, .int x1, .int 0, .int x2] M)).bind fun q1 => pm_res mX3_surveyQuestion 22 [(0, .ref x0), (1, .int x1), (2, .int x2), (3, .int x3), (4, .int q1.1), (5, .int q1.1), (6, .int 0), (7, .int 1), (8, .int 1)] [] q1.2) else none := (pm_xeqC mX3_surveyQuestion c_X3_surveyQuestion d_X3_surveyQuestion rfl rfl 400 _ M).trans rfl
set_option maxRecDepth 100000 in
set_option maxHeartbeats 4000000 in
theorem e_X3_surveyQuestion_22 (M : pm_M) (x0 : Nat) (x1 : Int32) (x2 : Int32) (x3 : Int32) (x4 : Int32) (x5 : Int32) (x6 : Int32) (x7 : Int32) (x8 : Int32) : pm_res mX3_surveyQuestion 22 [(0, .ref x0), (1, .int x1), (2, .int x2), (3, .int x3), (4, .int x4), (5, .int x5), (6, .int x6), (7, .int x7), (8, .int x8)] [] M = (pm_gI M 3 1 x0).bind fun g1 => 
    if g1 ≤ x8 then ((pm_gI M 3 7 x0).bind fun g2 => (pm_pI M 3 7 x0 (g2 + x4)).bind fun m3 => (pm_gI m3 3 8 x0).bind fun g4 => (pm_pI m3 3 8 x0 (g4 + (x6 * x3))).bind fun m5 => (pm_gI m5 3 9 x0).bind fun g6 => (pm_pI m5 3 9 x0 (g6 * x7)).bind fun m7 => (pm_gI m7 3 10 x0).bind fun g8 => (pm_pI m7 3 10 x0 (g8 + x5)).bind fun m9 => some (.null, m9))
    else (bif pm_kd M 3 x0 then ((pm_oI (pm_C mX3_sumOfFirst [.ref x0, .int x1, .int x8, .int x2] M)).bind fun q10 => 
      if q10.1 ≤ x4 then (
        if q10.1 = x4 then (pm_res mX3_surveyQuestion 72 [(0, .ref x0), (1, .int x1), (2, .int x2), (3, .int x3), (4, .int x4), (5, .int x5), (6, .int x6), (7, .int (x7 + 1)), (8, .int x8), (9, .int q10.1)] [] q10.2)
        else (pm_res mX3_surveyQuestion 72 [(0, .ref x0), (1, .int x1), (2, .int x2), (3, .int x3), (4, .int x4), (5, .int x5), (6, .int x6), (7, .int x7), (8, .int x8), (9, .int q10.1)] [] q10.2))
      else (pm_res mX3_surveyQuestion 72 [(0, .ref x0), (1, .int x1), (2, .int x2), (3, .int x3), (4, .int q10.1), (5, .int x5), (6, .int x8), (7, .int 1), (8, .int x8), (9, .int q10.1)] [] q10.2)) else none) := (pm_xeq mX3_surveyQuestion c_X3_surveyQuestion d_X3_surveyQuestion rfl rfl 400 22 _ _ M).trans rfl
set_option maxRecDepth 100000 in
set_option maxHeartbeats 4000000 in
theorem e_X3_surveyQuestion_72 (M : pm_M) (x0 : Nat) (x1 : Int32) (x2 : Int32) (x3 : Int32) (x4 : Int32) (x5 : Int32) (x6 : Int32) (x7 : Int32) (x8 : Int32) (x9 : Int32) : pm_res mX3_surveyQuestion 72 [(0, .ref x0), (1, .int x1), (2, .int x2), (3, .int x3), (4, .int x4), (5, .int x5), (6, .int x6), (7, .int x7), (8, .int x8), (9, .int x9)] [] M = pm_res mX3_surveyQuestion 22 [(0, .ref x0), (1, .int x1), (2, .int x2), (3, .int x3), (4, .int x4), (5, .int (pm_min x5 x9)), (6, .int x6), (7, .int x7), (8, .int (x8 + 1))] [] M := (pm_xeq mX3_surveyQuestion c_X3_surveyQuestion d_X3_surveyQuestion rfl rfl 400 72 _ _ M).trans rfl
set_option maxRecDepth 100000 in
set_option maxHeartbeats 4000000 in
theorem e_X3_sumOfFirst (M : pm_M) (x0 : Nat) (x1 : Int32) (x2 : Int32) (x3 : Int32) : pm_C mX3_sumOfFirst [.ref x0, .int x1, .int x2, .int x3] M = pm_res mX3_sumOfFirst 6 [(0, .ref x0), (1, .int x1), (2, .int x2), (3, .int x3), (4, .int 0), (5, .int 0)] [] M := (pm_xeqC mX3_sumOfFirst c_X3_sumOfFirst d_X3_sumOfFirst rfl rfl 400 _ M).trans rfl
set_option maxRecDepth 100000 in
set_option maxHeartbeats 4000000 in
theorem e_X3_sumOfFirst_6 (M : pm_M) (x0 : Nat) (x1 : Int32) (x2 : Int32) (x3 : Int32) (x4 : Int32) (x5 : Int32) : pm_res mX3_sumOfFirst 6 [(0, .ref x0), (1, .int x1), (2, .int x2), (3, .int x3), (4, .int x4), (5, .int x5)] [] M = (pm_gI M 3 0 x0).bind fun g1 => 
    if g1 ≤ x5 then (some (.int x4, M))
    else (
      if ((x3 >>> (x5 &&& 31)) &&& 1) = 1 then ((pm_gR M 3 2 x0).bind fun g2 => (pm_gR M 3 11 x0).bind fun g3 => (pm_aI M g3 x5).bind fun g4 => (pm_oI (pm_C mX6_spot [.int x5, .int x1, .int g4, .int x2] M)).bind fun q5 => (pm_aI q5.2 g2 q5.1).bind fun g6 => pm_res mX3_sumOfFirst 6 [(0, .ref x0), (1, .int x1), (2, .int x2), (3, .int x3), (4, .int (x4 + g6)), (5, .int (x5 + 1))] [] q5.2)
      else (pm_res mX3_sumOfFirst 6 [(0, .ref x0), (1, .int x1), (2, .int x2), (3, .int x3), (4, .int x4), (5, .int (x5 + 1))] [] M)) := (pm_xeq mX3_sumOfFirst c_X3_sumOfFirst d_X3_sumOfFirst rfl rfl 400 6 _ _ M).trans rfl
set_option maxRecDepth 100000 in
set_option maxHeartbeats 4000000 in
theorem e_X3_bestTold (M : pm_M) (x0 : Nat) : pm_C mX3_bestTold [.ref x0] M = bif pm_kd M 3 x0 then ((pm_oI (pm_C mX3_allQuestions [.ref x0] M)).bind fun q1 => pm_res mX3_bestTold 9 [(0, .ref x0), (1, .int q1.1), (2, .int 0), (3, .int 0)] [] q1.2) else none := (pm_xeqC mX3_bestTold c_X3_bestTold d_X3_bestTold rfl rfl 400 _ M).trans rfl
set_option maxRecDepth 100000 in
set_option maxHeartbeats 4000000 in
theorem e_X3_bestTold_9 (M : pm_M) (x0 : Nat) (x1 : Int32) (x2 : Int32) (x3 : Int32) : pm_res mX3_bestTold 9 [(0, .ref x0), (1, .int x1), (2, .int x2), (3, .int x3)] [] M = 
    if (x1 / 2) < x3 then (some (.long x2.toInt64, M))
    else (bif pm_kd M 3 x0 then ((pm_oV (pm_C mX3_survey [.ref x0, .int x3] M)).bind fun m1 => (pm_gI m1 3 3 x0).bind fun g2 => bif pm_kd m1 3 x0 then ((pm_oV (pm_C mX3_survey [.ref x0, .int (x1 - x3)] m1)).bind fun m3 => (pm_gI m3 3 3 x0).bind fun g4 => 
      if x3 = 0 then (pm_res mX3_bestTold 9 [(0, .ref x0), (1, .int x1), (2, .int (g2 + g4)), (3, .int (x3 + 1))] [] m3)
      else (
        if (g2 + g4) ≤ x2 then (pm_res mX3_bestTold 9 [(0, .ref x0), (1, .int x1), (2, .int x2), (3, .int (x3 + 1))] [] m3)
        else (pm_res mX3_bestTold 9 [(0, .ref x0), (1, .int x1), (2, .int (g2 + g4)), (3, .int (x3 + 1))] [] m3))) else none) else none) := (pm_xeq mX3_bestTold c_X3_bestTold d_X3_bestTold rfl rfl 400 9 _ _ M).trans rfl
set_option maxRecDepth 100000 in
set_option maxHeartbeats 4000000 in
theorem e_X4_init (M : pm_M) (x0 : Nat) : pm_C mX4_init [.ref x0] M = (pm_pR (pm_new M (8, 30)) 4 0 x0 (M).1.length).bind fun m1 => (pm_pR (pm_new m1 (8, 30)) 4 1 x0 (m1).1.length).bind fun m2 => some (.null, m2) := (pm_xeqC mX4_init c_X4_init d_X4_init rfl rfl 400 _ M).trans rfl
set_option maxRecDepth 100000 in
set_option maxHeartbeats 4000000 in
theorem e_X4_drop (M : pm_M) (x0 : Nat) : pm_C mX4_drop [.ref x0] M = (pm_pI M 4 2 x0 0).bind fun m1 => some (.null, m1) := (pm_xeqC mX4_drop c_X4_drop d_X4_drop rfl rfl 400 _ M).trans rfl
set_option maxRecDepth 100000 in
set_option maxHeartbeats 4000000 in
theorem e_X4_find (M : pm_M) (x0 : Nat) (x1 : Int32) : pm_C mX4_find [.ref x0, .int x1] M = pm_res mX4_find 2 [(0, .ref x0), (1, .int x1), (2, .int 0)] [] M := (pm_xeqC mX4_find c_X4_find d_X4_find rfl rfl 400 _ M).trans rfl
set_option maxRecDepth 100000 in
set_option maxHeartbeats 4000000 in
theorem e_X4_find_2 (M : pm_M) (x0 : Nat) (x1 : Int32) (x2 : Int32) : pm_res mX4_find 2 [(0, .ref x0), (1, .int x1), (2, .int x2)] [] M = (pm_gI M 4 2 x0).bind fun g1 => 
    if g1 ≤ x2 then (some (.int (-1), M))
    else ((pm_gR M 4 0 x0).bind fun g2 => (pm_aI M g2 x2).bind fun g3 => 
      if g3 = x1 then (some (.int x2, M))
      else (pm_res mX4_find 2 [(0, .ref x0), (1, .int x1), (2, .int (x2 + 1))] [] M)) := (pm_xeq mX4_find c_X4_find d_X4_find rfl rfl 400 2 _ _ M).trans rfl
set_option maxRecDepth 100000 in
set_option maxHeartbeats 4000000 in
theorem e_X4_put (M : pm_M) (x0 : Nat) (x1 : Int32) (x2 : Int32) (x3 : Int32) : pm_C mX4_put [.ref x0, .int x1, .int x2, .int x3] M = 
    if x1 < 0 then (pm_res mX4_put 51 [(0, .ref x0), (1, .int x1), (2, .int x2), (3, .int x3)] [] M)
    else (
      if x3 = 0 then ((pm_gI M 4 2 x0).bind fun g1 => (pm_pI M 4 2 x0 (g1 - 1)).bind fun m2 => (pm_gR m2 4 0 x0).bind fun g3 => (pm_gR m2 4 0 x0).bind fun g4 => (pm_gI m2 4 2 x0).bind fun g5 => (pm_aI m2 g4 g5).bind fun g6 => (pm_sI m2 g3 x1 g6).bind fun m7 => (pm_gR m7 4 1 x0).bind fun g8 => (pm_gR m7 4 1 x0).bind fun g9 => (pm_gI m7 4 2 x0).bind fun g10 => (pm_aI m7 g9 g10).bind fun g11 => (pm_sI m7 g8 x1 g11).bind fun m12 => some (.null, m12))
      else (pm_res mX4_put 51 [(0, .ref x0), (1, .int x1), (2, .int x2), (3, .int x3)] [] M)) := (pm_xeqC mX4_put c_X4_put d_X4_put rfl rfl 400 _ M).trans rfl
set_option maxRecDepth 100000 in
set_option maxHeartbeats 4000000 in
theorem e_X4_put_51 (M : pm_M) (x0 : Nat) (x1 : Int32) (x2 : Int32) (x3 : Int32) : pm_res mX4_put 51 [(0, .ref x0), (1, .int x1), (2, .int x2), (3, .int x3)] [] M = 
    if x1 < 0 then (
      if x3 = 0 then (some (.null, M))
      else ((pm_gI M 4 2 x0).bind fun g1 => 
        if 30 ≤ g1 then (some (.null, M))
        else ((pm_gR M 4 0 x0).bind fun g2 => (pm_gI M 4 2 x0).bind fun g3 => (pm_sI M g2 g3 x2).bind fun m4 => (pm_gR m4 4 1 x0).bind fun g5 => (pm_gI m4 4 2 x0).bind fun g6 => (pm_sI m4 g5 g6 x3).bind fun m7 => (pm_gI m7 4 2 x0).bind fun g8 => (pm_pI m7 4 2 x0 (g8 + 1)).bind fun m9 => some (.null, m9))))
    else ((pm_gR M 4 1 x0).bind fun g10 => (pm_sI M g10 x1 x3).bind fun m11 => some (.null, m11)) := (pm_xeq mX4_put c_X4_put d_X4_put rfl rfl 400 51 _ _ M).trans rfl
set_option maxRecDepth 100000 in
set_option maxHeartbeats 4000000 in
theorem e_X4_together (M : pm_M) (x0 : Nat) : pm_C mX4_together [.ref x0] M = pm_res mX4_together 4 [(0, .ref x0), (1, .long 0), (3, .int 0)] [] M := (pm_xeqC mX4_together c_X4_together d_X4_together rfl rfl 400 _ M).trans rfl
set_option maxRecDepth 100000 in
set_option maxHeartbeats 4000000 in
theorem e_X4_together_4 (M : pm_M) (x0 : Nat) (x1 : Int64) (x3 : Int32) : pm_res mX4_together 4 [(0, .ref x0), (1, .long x1), (3, .int x3)] [] M = (pm_gI M 4 2 x0).bind fun g1 => 
    if g1 ≤ x3 then (some (.long x1, M))
    else ((pm_gR M 4 1 x0).bind fun g2 => (pm_aI M g2 x3).bind fun g3 => pm_res mX4_together 4 [(0, .ref x0), (1, .long (x1 + g3.toInt64)), (3, .int (x3 + 1))] [] M) := (pm_xeq mX4_together c_X4_together d_X4_together rfl rfl 400 4 _ _ M).trans rfl
set_option maxRecDepth 100000 in
set_option maxHeartbeats 4000000 in
theorem e_X5_init (M : pm_M) (x0 : Nat) : pm_C mX5_init [.ref x0] M = (pm_pR (pm_new M (8, 81)) 5 3 x0 (M).1.length).bind fun m1 => some (.null, m1) := (pm_xeqC mX5_init c_X5_init d_X5_init rfl rfl 400 _ M).trans rfl
set_option maxRecDepth 100000 in
set_option maxHeartbeats 4000000 in
theorem e_X5_isMissing (M : pm_M) (x0 : Nat) : pm_C mX5_isMissing [.ref x0] M = (pm_gI M 5 0 x0).bind fun g1 => 
    if g1 = 0 then (some (.int 1, M))
    else (some (.int 0, M)) := (pm_xeqC mX5_isMissing c_X5_isMissing d_X5_isMissing rfl rfl 400 _ M).trans rfl
set_option maxRecDepth 100000 in
set_option maxHeartbeats 4000000 in
theorem e_X5_isTwoByTwo (M : pm_M) (x0 : Nat) : pm_C mX5_isTwoByTwo [.ref x0] M = (pm_gI M 5 0 x0).bind fun g1 => 
    if g1 = 2 then ((pm_gI M 5 1 x0).bind fun g2 => 
      if g2 = 2 then (some (.int 1, M))
      else (some (.int 0, M)))
    else (some (.int 0, M)) := (pm_xeqC mX5_isTwoByTwo c_X5_isTwoByTwo d_X5_isTwoByTwo rfl rfl 400 _ M).trans rfl
set_option maxRecDepth 100000 in
set_option maxHeartbeats 4000000 in
theorem e_X5_isAnswer (M : pm_M) (x0 : Nat) (x1 : Int32) : pm_C mX5_isAnswer [.ref x0, .int x1] M = 
    if x1 < 0 then (some (.int 0, M))
    else ((pm_gI M 5 1 x0).bind fun g1 => 
      if g1 ≤ x1 then (some (.int 0, M))
      else (some (.int 1, M))) := (pm_xeqC mX5_isAnswer c_X5_isAnswer d_X5_isAnswer rfl rfl 400 _ M).trans rfl
set_option maxRecDepth 100000 in
set_option maxHeartbeats 4000000 in
theorem e_X5_hasRows (M : pm_M) (x0 : Nat) (x1 : Int32) (x2 : Int32) : pm_C mX5_hasRows [.ref x0, .int x1, .int x2] M = (pm_gI M 5 0 x0).bind fun g1 => (pm_oI (pm_C mX6_isRow [.int x1, .int g1] M)).bind fun q2 => 
    if q2.1 = 0 then (some (.int 0, q2.2))
    else ((pm_gI q2.2 5 1 x0).bind fun g3 => (pm_oI (pm_C mX6_isRow [.int x2, .int g3] q2.2)).bind fun q4 => 
      if q4.1 = 0 then (some (.int 0, q4.2))
      else (some (.int 1, q4.2))) := (pm_xeqC mX5_hasRows c_X5_hasRows d_X5_hasRows rfl rfl 400 _ M).trans rfl
set_option maxRecDepth 100000 in
set_option maxHeartbeats 4000000 in
theorem e_X5_hasShapeOf (M : pm_M) (x0 : Nat) (x1 : Nat) : pm_C mX5_hasShapeOf [.ref x0, .ref x1] M = (pm_gI M 5 0 x0).bind fun g1 => (pm_gI M 5 0 x1).bind fun g2 => 
    if g1 = g2 then ((pm_gI M 5 1 x0).bind fun g3 => (pm_gI M 5 1 x1).bind fun g4 => 
      if g3 = g4 then (some (.int 1, M))
      else (some (.int 0, M)))
    else (some (.int 0, M)) := (pm_xeqC mX5_hasShapeOf c_X5_hasShapeOf d_X5_hasShapeOf rfl rfl 400 _ M).trans rfl
set_option maxRecDepth 100000 in
set_option maxHeartbeats 4000000 in
theorem e_X5_restart (M : pm_M) (x0 : Nat) (x1 : Int32) (x2 : Int32) (x3 : Int32) : pm_C mX5_restart [.ref x0, .int x1, .int x2, .int x3] M = (pm_pI M 5 0 x0 x1).bind fun m1 => (pm_pI m1 5 1 x0 x2).bind fun m2 => (pm_pI m2 5 2 x0 x3).bind fun m3 => (pm_gR m3 5 3 x0).bind fun g4 => (pm_oV (pm_C mJ7_fill_53178 [.ref g4, .int 0] m3)).bind fun m5 => some (.null, m5) := (pm_xeqC mX5_restart c_X5_restart d_X5_restart rfl rfl 400 _ M).trans rfl
set_option maxRecDepth 100000 in
set_option maxHeartbeats 4000000 in
theorem e_X5_copyFrom (M : pm_M) (x0 : Nat) (x1 : Nat) : pm_C mX5_copyFrom [.ref x0, .ref x1] M = (pm_gI M 5 0 x1).bind fun g1 => (pm_pI M 5 0 x0 g1).bind fun m2 => (pm_gI m2 5 1 x1).bind fun g3 => (pm_pI m2 5 1 x0 g3).bind fun m4 => (pm_gI m4 5 2 x1).bind fun g5 => (pm_pI m4 5 2 x0 g5).bind fun m6 => (pm_gR m6 5 3 x1).bind fun g7 => (pm_gR m6 5 3 x0).bind fun g8 => (pm_cp m6 g7 0 g8 0 81).bind fun m9 => some (.null, m9) := (pm_xeqC mX5_copyFrom c_X5_copyFrom d_X5_copyFrom rfl rfl 400 _ M).trans rfl
set_option maxRecDepth 100000 in
set_option maxHeartbeats 4000000 in
theorem e_X5_hasChancesOf (M : pm_M) (x0 : Nat) (x1 : Nat) : pm_C mX5_hasChancesOf [.ref x0, .ref x1] M = bif pm_kd M 5 x0 then ((pm_oI (pm_C mX5_hasShapeOf [.ref x0, .ref x1] M)).bind fun q1 => 
    if q1.1 = 0 then (some (.int 0, q1.2))
    else (pm_res mX5_hasChancesOf 12 [(0, .ref x0), (1, .ref x1), (2, .int 0)] [] q1.2)) else none := (pm_xeqC mX5_hasChancesOf c_X5_hasChancesOf d_X5_hasChancesOf rfl rfl 400 _ M).trans rfl
set_option maxRecDepth 100000 in
set_option maxHeartbeats 4000000 in
theorem e_X5_hasChancesOf_12 (M : pm_M) (x0 : Nat) (x1 : Nat) (x2 : Int32) : pm_res mX5_hasChancesOf 12 [(0, .ref x0), (1, .ref x1), (2, .int x2)] [] M = 
    if 81 ≤ x2 then (some (.int 1, M))
    else ((pm_gR M 5 3 x0).bind fun g1 => (pm_aI M g1 x2).bind fun g2 => (pm_gI M 5 2 x1).bind fun g3 => (pm_gR M 5 3 x1).bind fun g4 => (pm_aI M g4 x2).bind fun g5 => (pm_gI M 5 2 x0).bind fun g6 => 
      if (lg_cmp (g2.toInt64 * g3.toInt64) (g5.toInt64 * g6.toInt64)) = 0 then (pm_res mX5_hasChancesOf 12 [(0, .ref x0), (1, .ref x1), (2, .int (x2 + 1))] [] M)
      else (some (.int 0, M))) := (pm_xeq mX5_hasChancesOf c_X5_hasChancesOf d_X5_hasChancesOf rfl rfl 400 12 _ _ M).trans rfl
set_option maxRecDepth 100000 in
set_option maxHeartbeats 4000000 in
theorem e_X5_exchange (M : pm_M) (x0 : Nat) (x1 : Int32) (x2 : Int32) : pm_C mX5_exchange [.ref x0, .int x1, .int x2] M = (pm_gR M 5 3 x0).bind fun g1 => (pm_aI M g1 x1).bind fun g2 => (pm_gR M 5 3 x0).bind fun g3 => (pm_gR M 5 3 x0).bind fun g4 => (pm_aI M g4 x2).bind fun g5 => (pm_sI M g3 x1 g5).bind fun m6 => (pm_gR m6 5 3 x0).bind fun g7 => (pm_sI m6 g7 x2 g2).bind fun m8 => some (.null, m8) := (pm_xeqC mX5_exchange c_X5_exchange d_X5_exchange rfl rfl 400 _ M).trans rfl
set_option maxRecDepth 100000 in
set_option maxHeartbeats 4000000 in
theorem e_X5_exchangeAnswers (M : pm_M) (x0 : Nat) (x1 : Int32) (x2 : Int32) (x3 : Int32) (x4 : Int32) : pm_C mX5_exchangeAnswers [.ref x0, .int x1, .int x2, .int x3, .int x4] M = pm_res mX5_exchangeAnswers 3 [(0, .ref x0), (1, .int x1), (2, .int x2), (3, .int x3), (4, .int x4), (5, .int 0)] [] M := (pm_xeqC mX5_exchangeAnswers c_X5_exchangeAnswers d_X5_exchangeAnswers rfl rfl 400 _ M).trans rfl
set_option maxRecDepth 100000 in
set_option maxHeartbeats 4000000 in
theorem e_X5_exchangeAnswers_3 (M : pm_M) (x0 : Nat) (x1 : Int32) (x2 : Int32) (x3 : Int32) (x4 : Int32) (x5 : Int32) : pm_res mX5_exchangeAnswers 3 [(0, .ref x0), (1, .int x1), (2, .int x2), (3, .int x3), (4, .int x4), (5, .int x5)] [] M = (pm_gI M 5 0 x0).bind fun g1 => 
    if g1 ≤ x5 then (some (.null, M))
    else (pm_res mX5_exchangeAnswers 15 [(0, .ref x0), (1, .int x1), (2, .int x2), (3, .int x3), (4, .int x4), (5, .int x5), (6, .int 0)] [] M) := (pm_xeq mX5_exchangeAnswers c_X5_exchangeAnswers d_X5_exchangeAnswers rfl rfl 400 3 _ _ M).trans rfl
set_option maxRecDepth 100000 in
set_option maxHeartbeats 4000000 in
theorem e_X5_exchangeAnswers_15 (M : pm_M) (x0 : Nat) (x1 : Int32) (x2 : Int32) (x3 : Int32) (x4 : Int32) (x5 : Int32) (x6 : Int32) : pm_res mX5_exchangeAnswers 15 [(0, .ref x0), (1, .int x1), (2, .int x2), (3, .int x3), (4, .int x4), (5, .int x5), (6, .int x6)] [] M = (pm_gI M 5 1 x0).bind fun g1 => 
    if g1 ≤ x6 then (pm_res mX5_exchangeAnswers 3 [(0, .ref x0), (1, .int x1), (2, .int x2), (3, .int x3), (4, .int x4), (5, .int (x5 + 1))] [] M)
    else ((pm_oI (pm_C mX5_spotOf [.int x1, .int x2, .int x5, .int x3, .int x6] M)).bind fun q2 => (pm_oI (pm_C mX5_spotOf [.int x1, .int x2, .int x5, .int x4, .int x6] q2.2)).bind fun q3 => bif pm_kd q3.2 5 x0 then ((pm_oV (pm_C mX5_exchange [.ref x0, .int q2.1, .int q3.1] q3.2)).bind fun m4 => pm_res mX5_exchangeAnswers 15 [(0, .ref x0), (1, .int x1), (2, .int x2), (3, .int x3), (4, .int x4), (5, .int x5), (6, .int (x6 + 1))] [] m4) else none) := (pm_xeq mX5_exchangeAnswers c_X5_exchangeAnswers d_X5_exchangeAnswers rfl rfl 400 15 _ _ M).trans rfl
set_option maxRecDepth 100000 in
set_option maxHeartbeats 4000000 in
theorem e_X5_exchangePeople (M : pm_M) (x0 : Nat) : pm_C mX5_exchangePeople [.ref x0] M = pm_res mX5_exchangePeople 2 [(0, .ref x0), (1, .int 0)] [] M := (pm_xeqC mX5_exchangePeople c_X5_exchangePeople d_X5_exchangePeople rfl rfl 400 _ M).trans rfl
set_option maxRecDepth 100000 in
set_option maxHeartbeats 4000000 in
theorem e_X5_exchangePeople_2 (M : pm_M) (x0 : Nat) (x1 : Int32) : pm_res mX5_exchangePeople 2 [(0, .ref x0), (1, .int x1)] [] M = 
    if 81 ≤ x1 then (some (.null, M))
    else ((pm_oI (pm_C mX6_spot [.int (pm_rem (x1 / 9) 3), .int (x1 / 27), .int (pm_rem x1 3), .int (pm_rem (x1 / 3) 3)] M)).bind fun q1 => 
      if q1.1 ≤ x1 then (pm_res mX5_exchangePeople 2 [(0, .ref x0), (1, .int (x1 + 1))] [] q1.2)
      else (bif pm_kd q1.2 5 x0 then ((pm_oV (pm_C mX5_exchange [.ref x0, .int x1, .int q1.1] q1.2)).bind fun m2 => pm_res mX5_exchangePeople 2 [(0, .ref x0), (1, .int (x1 + 1))] [] m2) else none)) := (pm_xeq mX5_exchangePeople c_X5_exchangePeople d_X5_exchangePeople rfl rfl 400 2 _ _ M).trans rfl
set_option maxRecDepth 100000 in
set_option maxHeartbeats 4000000 in
theorem e_X5_reverseQuestions (M : pm_M) (x0 : Nat) (x1 : Int32) : pm_C mX5_reverseQuestions [.ref x0, .int x1] M = (pm_gI M 5 0 x0).bind fun g1 => pm_res mX5_reverseQuestions 9 [(0, .ref x0), (1, .int x1), (2, .int (g1 - 1)), (3, .int 0)] [] M := (pm_xeqC mX5_reverseQuestions c_X5_reverseQuestions d_X5_reverseQuestions rfl rfl 400 _ M).trans rfl
set_option maxRecDepth 100000 in
set_option maxHeartbeats 4000000 in
theorem e_X5_reverseQuestions_9 (M : pm_M) (x0 : Nat) (x1 : Int32) (x2 : Int32) (x3 : Int32) : pm_res mX5_reverseQuestions 9 [(0, .ref x0), (1, .int x1), (2, .int x2), (3, .int x3)] [] M = (pm_gI M 5 0 x0).bind fun g1 => 
    if g1 ≤ x3 then (some (.null, M))
    else (pm_res mX5_reverseQuestions 20 [(0, .ref x0), (1, .int x1), (2, .int x2), (3, .int x3), (4, .int 0)] [] M) := (pm_xeq mX5_reverseQuestions c_X5_reverseQuestions d_X5_reverseQuestions rfl rfl 400 9 _ _ M).trans rfl
set_option maxRecDepth 100000 in
set_option maxHeartbeats 4000000 in
theorem e_X5_reverseQuestions_20 (M : pm_M) (x0 : Nat) (x1 : Int32) (x2 : Int32) (x3 : Int32) (x4 : Int32) : pm_res mX5_reverseQuestions 20 [(0, .ref x0), (1, .int x1), (2, .int x2), (3, .int x3), (4, .int x4)] [] M = (pm_gI M 5 1 x0).bind fun g1 => 
    if g1 ≤ x4 then (pm_res mX5_reverseQuestions 9 [(0, .ref x0), (1, .int x1), (2, .int x2), (3, .int (x3 + 1))] [] M)
    else (pm_res mX5_reverseQuestions 32 [(0, .ref x0), (1, .int x1), (2, .int x2), (3, .int x3), (4, .int x4), (5, .int 0)] [] M) := (pm_xeq mX5_reverseQuestions c_X5_reverseQuestions d_X5_reverseQuestions rfl rfl 400 20 _ _ M).trans rfl
set_option maxRecDepth 100000 in
set_option maxHeartbeats 4000000 in
theorem e_X5_reverseQuestions_32 (M : pm_M) (x0 : Nat) (x1 : Int32) (x2 : Int32) (x3 : Int32) (x4 : Int32) (x5 : Int32) : pm_res mX5_reverseQuestions 32 [(0, .ref x0), (1, .int x1), (2, .int x2), (3, .int x3), (4, .int x4), (5, .int x5)] [] M = (pm_gI M 5 1 x0).bind fun g1 => 
    if g1 ≤ x5 then (pm_res mX5_reverseQuestions 20 [(0, .ref x0), (1, .int x1), (2, .int x2), (3, .int x3), (4, .int (x4 + 1))] [] M)
    else (
      if x2 ≤ 0 then (pm_res mX5_reverseQuestions 32 [(0, .ref x0), (1, .int x1), (2, .int x2), (3, .int x3), (4, .int x4), (5, .int (x5 + 1))] [] M)
      else ((pm_oI (pm_C mX5_spotOf [.int x1, .int 0, .int x3, .int x4, .int x5] M)).bind fun q2 => (pm_oI (pm_C mX5_spotOf [.int x1, .int x2, .int x3, .int x4, .int x5] q2.2)).bind fun q3 => bif pm_kd q3.2 5 x0 then ((pm_oV (pm_C mX5_exchange [.ref x0, .int q2.1, .int q3.1] q3.2)).bind fun m4 => pm_res mX5_reverseQuestions 32 [(0, .ref x0), (1, .int x1), (2, .int x2), (3, .int x3), (4, .int x4), (5, .int (x5 + 1))] [] m4) else none)) := (pm_xeq mX5_reverseQuestions c_X5_reverseQuestions d_X5_reverseQuestions rfl rfl 400 32 _ _ M).trans rfl
set_option maxRecDepth 100000 in
set_option maxHeartbeats 4000000 in
theorem e_X5_spotOf (M : pm_M) (x0 : Int32) (x1 : Int32) (x2 : Int32) (x3 : Int32) (x4 : Int32) : pm_C mX5_spotOf [.int x0, .int x1, .int x2, .int x3, .int x4] M = 
    if x0 = 0 then (some (.int ((((27 * x1) + (9 * x2)) + (3 * x3)) + x4), M))
    else (some (.int ((((27 * x2) + (9 * x1)) + (3 * x4)) + x3), M)) := (pm_xeqC mX5_spotOf c_X5_spotOf d_X5_spotOf rfl rfl 400 _ M).trans rfl
set_option maxRecDepth 100000 in
set_option maxHeartbeats 4000000 in
theorem e_X5_isProper (M : pm_M) (x0 : Nat) : pm_C mX5_isProper [.ref x0] M = pm_res mX5_isProper 2 [(0, .ref x0), (1, .int 0)] [] M := (pm_xeqC mX5_isProper c_X5_isProper d_X5_isProper rfl rfl 400 _ M).trans rfl
set_option maxRecDepth 100000 in
set_option maxHeartbeats 4000000 in
theorem e_X5_isProper_2 (M : pm_M) (x0 : Nat) (x1 : Int32) : pm_res mX5_isProper 2 [(0, .ref x0), (1, .int x1)] [] M = (pm_gI M 5 0 x0).bind fun g1 => 
    if g1 ≤ x1 then (some (.int 1, M))
    else (pm_res mX5_isProper 12 [(0, .ref x0), (1, .int x1), (2, .int 0)] [] M) := (pm_xeq mX5_isProper c_X5_isProper d_X5_isProper rfl rfl 400 2 _ _ M).trans rfl
set_option maxRecDepth 100000 in
set_option maxHeartbeats 4000000 in
theorem e_X5_isProper_12 (M : pm_M) (x0 : Nat) (x1 : Int32) (x2 : Int32) : pm_res mX5_isProper 12 [(0, .ref x0), (1, .int x1), (2, .int x2)] [] M = (pm_gI M 5 0 x0).bind fun g1 => 
    if g1 ≤ x2 then (pm_res mX5_isProper 2 [(0, .ref x0), (1, .int (x1 + 1))] [] M)
    else (bif pm_kd M 5 x0 then ((pm_oI (pm_C mX5_rowSum [.ref x0, .int x1, .int x2] M)).bind fun q2 => (pm_gI q2.2 5 2 x0).bind fun g3 => 
      if q2.1 = g3 then (pm_res mX5_isProper 12 [(0, .ref x0), (1, .int x1), (2, .int (x2 + 1))] [] q2.2)
      else (some (.int 0, q2.2))) else none) := (pm_xeq mX5_isProper c_X5_isProper d_X5_isProper rfl rfl 400 12 _ _ M).trans rfl
set_option maxRecDepth 100000 in
set_option maxHeartbeats 4000000 in
theorem e_X5_rowSum (M : pm_M) (x0 : Nat) (x1 : Int32) (x2 : Int32) : pm_C mX5_rowSum [.ref x0, .int x1, .int x2] M = (pm_oI (pm_C mX6_spot [.int x1, .int x2, .int 0, .int 0] M)).bind fun q1 => pm_res mX5_rowSum 14 [(0, .ref x0), (3, .int q1.1), (4, .int 0), (5, .int 0)] [] q1.2 := (pm_xeqC mX5_rowSum c_X5_rowSum d_X5_rowSum rfl rfl 400 _ M).trans rfl
set_option maxRecDepth 100000 in
set_option maxHeartbeats 4000000 in
theorem e_X5_rowSum_14 (M : pm_M) (x0 : Nat) (x3 : Int32) (x4 : Int32) (x5 : Int32) : pm_res mX5_rowSum 14 [(0, .ref x0), (3, .int x3), (4, .int x4), (5, .int x5)] [] M = 
    if 9 ≤ x5 then (some (.int x4, M))
    else ((pm_gR M 5 3 x0).bind fun g1 => (pm_aI M g1 (x3 + x5)).bind fun g2 => pm_res mX5_rowSum 14 [(0, .ref x0), (3, .int x3), (4, .int (x4 + g2)), (5, .int (x5 + 1))] [] M) := (pm_xeq mX5_rowSum c_X5_rowSum d_X5_rowSum rfl rfl 400 14 _ _ M).trans rfl
set_option maxRecDepth 100000 in
set_option maxHeartbeats 4000000 in
theorem e_X5_isSilent (M : pm_M) (x0 : Nat) : pm_C mX5_isSilent [.ref x0] M = bif pm_kd M 5 x0 then ((pm_oI (pm_C mX5_isProper [.ref x0] M)).bind fun q1 => 
    if q1.1 = 0 then (some (.int 0, q1.2))
    else (bif pm_kd q1.2 5 x0 then ((pm_oI (pm_C mX5_firstThatShows [.ref x0] q1.2)).bind fun q2 => 
      if 0 ≤ q2.1 then (some (.int 0, q2.2))
      else (some (.int 1, q2.2))) else none)) else none := (pm_xeqC mX5_isSilent c_X5_isSilent d_X5_isSilent rfl rfl 400 _ M).trans rfl
set_option maxRecDepth 100000 in
set_option maxHeartbeats 4000000 in
theorem e_X5_firstThatShows (M : pm_M) (x0 : Nat) : pm_C mX5_firstThatShows [.ref x0] M = pm_res mX5_firstThatShows 2 [(0, .ref x0), (1, .int 0)] [] M := (pm_xeqC mX5_firstThatShows c_X5_firstThatShows d_X5_firstThatShows rfl rfl 400 _ M).trans rfl
set_option maxRecDepth 100000 in
set_option maxHeartbeats 4000000 in
theorem e_X5_firstThatShows_2 (M : pm_M) (x0 : Nat) (x1 : Int32) : pm_res mX5_firstThatShows 2 [(0, .ref x0), (1, .int x1)] [] M = 
    if 2 ≤ x1 then (some (.int (-1), M))
    else (pm_res mX5_firstThatShows 9 [(0, .ref x0), (1, .int x1), (2, .int 0)] [] M) := (pm_xeq mX5_firstThatShows c_X5_firstThatShows d_X5_firstThatShows rfl rfl 400 2 _ _ M).trans rfl
set_option maxRecDepth 100000 in
set_option maxHeartbeats 4000000 in
theorem e_X5_firstThatShows_9 (M : pm_M) (x0 : Nat) (x1 : Int32) (x2 : Int32) : pm_res mX5_firstThatShows 9 [(0, .ref x0), (1, .int x1), (2, .int x2)] [] M = (pm_gI M 5 0 x0).bind fun g1 => 
    if g1 ≤ x2 then (pm_res mX5_firstThatShows 2 [(0, .ref x0), (1, .int (x1 + 1))] [] M)
    else (pm_res mX5_firstThatShows 19 [(0, .ref x0), (1, .int x1), (2, .int x2), (3, .int 0)] [] M) := (pm_xeq mX5_firstThatShows c_X5_firstThatShows d_X5_firstThatShows rfl rfl 400 9 _ _ M).trans rfl
set_option maxRecDepth 100000 in
set_option maxHeartbeats 4000000 in
theorem e_X5_firstThatShows_19 (M : pm_M) (x0 : Nat) (x1 : Int32) (x2 : Int32) (x3 : Int32) : pm_res mX5_firstThatShows 19 [(0, .ref x0), (1, .int x1), (2, .int x2), (3, .int x3)] [] M = (pm_gI M 5 1 x0).bind fun g1 => 
    if g1 ≤ x3 then (pm_res mX5_firstThatShows 9 [(0, .ref x0), (1, .int x1), (2, .int (x2 + 1))] [] M)
    else (bif pm_kd M 5 x0 then ((pm_oI (pm_C mX5_firstOtherMargin [.ref x0, .int x1, .int x2, .int x3] M)).bind fun q2 => 
      if q2.1 ≤ 0 then (pm_res mX5_firstThatShows 19 [(0, .ref x0), (1, .int x1), (2, .int x2), (3, .int (x3 + 1))] [] q2.2)
      else (some (.int ((((27 * x1) + (9 * x2)) + (3 * x3)) + q2.1), q2.2))) else none) := (pm_xeq mX5_firstThatShows c_X5_firstThatShows d_X5_firstThatShows rfl rfl 400 19 _ _ M).trans rfl
set_option maxRecDepth 100000 in
set_option maxHeartbeats 4000000 in
theorem e_X5_firstOtherMargin (M : pm_M) (x0 : Nat) (x1 : Int32) (x2 : Int32) (x3 : Int32) : pm_C mX5_firstOtherMargin [.ref x0, .int x1, .int x2, .int x3] M = bif pm_kd M 5 x0 then ((pm_oI (pm_C mX5_margin [.ref x0, .int x1, .int x2, .int 0, .int x3] M)).bind fun q1 => pm_res mX5_firstOtherMargin 13 [(0, .ref x0), (1, .int x1), (2, .int x2), (3, .int x3), (4, .int q1.1), (5, .int 1)] [] q1.2) else none := (pm_xeqC mX5_firstOtherMargin c_X5_firstOtherMargin d_X5_firstOtherMargin rfl rfl 400 _ M).trans rfl
set_option maxRecDepth 100000 in
set_option maxHeartbeats 4000000 in
theorem e_X5_firstOtherMargin_13 (M : pm_M) (x0 : Nat) (x1 : Int32) (x2 : Int32) (x3 : Int32) (x4 : Int32) (x5 : Int32) : pm_res mX5_firstOtherMargin 13 [(0, .ref x0), (1, .int x1), (2, .int x2), (3, .int x3), (4, .int x4), (5, .int x5)] [] M = (pm_gI M 5 0 x0).bind fun g1 => 
    if g1 ≤ x5 then (some (.int 0, M))
    else (bif pm_kd M 5 x0 then ((pm_oI (pm_C mX5_margin [.ref x0, .int x1, .int x2, .int x5, .int x3] M)).bind fun q2 => 
      if q2.1 = x4 then (pm_res mX5_firstOtherMargin 13 [(0, .ref x0), (1, .int x1), (2, .int x2), (3, .int x3), (4, .int x4), (5, .int (x5 + 1))] [] q2.2)
      else (some (.int x5, q2.2))) else none) := (pm_xeq mX5_firstOtherMargin c_X5_firstOtherMargin d_X5_firstOtherMargin rfl rfl 400 13 _ _ M).trans rfl
set_option maxRecDepth 100000 in
set_option maxHeartbeats 4000000 in
theorem e_X5_margin (M : pm_M) (x0 : Nat) (x1 : Int32) (x2 : Int32) (x3 : Int32) (x4 : Int32) : pm_C mX5_margin [.ref x0, .int x1, .int x2, .int x3, .int x4] M = pm_res mX5_margin 6 [(0, .ref x0), (1, .int x1), (2, .int x2), (3, .int x3), (4, .int x4), (5, .int 0), (6, .int 0)] [] M := (pm_xeqC mX5_margin c_X5_margin d_X5_margin rfl rfl 400 _ M).trans rfl
set_option maxRecDepth 100000 in
set_option maxHeartbeats 4000000 in
theorem e_X5_margin_6 (M : pm_M) (x0 : Nat) (x1 : Int32) (x2 : Int32) (x3 : Int32) (x4 : Int32) (x5 : Int32) (x6 : Int32) : pm_res mX5_margin 6 [(0, .ref x0), (1, .int x1), (2, .int x2), (3, .int x3), (4, .int x4), (5, .int x5), (6, .int x6)] [] M = (pm_gI M 5 1 x0).bind fun g1 => 
    if g1 ≤ x6 then (some (.int x5, M))
    else ((pm_gR M 5 3 x0).bind fun g2 => (pm_oI (pm_C mX5_spotOf [.int x1, .int x2, .int x3, .int x4, .int x6] M)).bind fun q3 => (pm_aI q3.2 g2 q3.1).bind fun g4 => pm_res mX5_margin 6 [(0, .ref x0), (1, .int x1), (2, .int x2), (3, .int x3), (4, .int x4), (5, .int (x5 + g4)), (6, .int (x6 + 1))] [] q3.2) := (pm_xeq mX5_margin c_X5_margin d_X5_margin rfl rfl 400 6 _ _ M).trans rfl
set_option maxRecDepth 100000 in
set_option maxHeartbeats 4000000 in
theorem e_X5_sureNumber (M : pm_M) (x0 : Nat) : pm_C mX5_sureNumber [.ref x0] M = (pm_gI M 5 0 x0).bind fun g1 => pm_res mX5_sureNumber 11 [(0, .ref x0), (1, .int 0), (2, .int 0), (3, .int (g1 - 1))] [] M := (pm_xeqC mX5_sureNumber c_X5_sureNumber d_X5_sureNumber rfl rfl 400 _ M).trans rfl
set_option maxRecDepth 100000 in
set_option maxHeartbeats 4000000 in
theorem e_X5_sureNumber_11 (M : pm_M) (x0 : Nat) (x1 : Int32) (x2 : Int32) (x3 : Int32) : pm_res mX5_sureNumber 11 [(0, .ref x0), (1, .int x1), (2, .int x2), (3, .int x3)] [] M = 
    if x3 < 0 then (bif pm_kd M 5 x0 then ((pm_oI (pm_C mX5_isSure [.ref x0, .int x1, .int x2] M)).bind fun q1 => 
      if q1.1 = 0 then (some (.int (-1), q1.2))
      else ((pm_gI q1.2 5 1 x0).bind fun g2 => (pm_gI q1.2 5 0 x0).bind fun g3 => (pm_oI (pm_C mX6_power [.int g2, .int g3] q1.2)).bind fun q4 => some (.int ((x1 * q4.1) + x2), q4.2))) else none)
    else (bif pm_kd M 5 x0 then ((pm_oI (pm_C mX5_sureAnswers [.ref x0, .int x3, .int 0] M)).bind fun q5 => bif pm_kd q5.2 5 x0 then ((pm_oI (pm_C mX5_sureAnswers [.ref x0, .int 0, .int x3] q5.2)).bind fun q6 => 
      if q5.1 < 0 then (some (.int (-1), q6.2))
      else (
        if 0 ≤ q6.1 then ((pm_gI q6.2 5 1 x0).bind fun g7 => (pm_gI q6.2 5 1 x0).bind fun g8 => pm_res mX5_sureNumber 11 [(0, .ref x0), (1, .int ((x1 * g7) + (q5.1 / 3))), (2, .int ((x2 * g8) + (pm_rem q6.1 3))), (3, .int (x3 + (-1)))] [] q6.2)
        else (some (.int (-1), q6.2)))) else none) else none) := (pm_xeq mX5_sureNumber c_X5_sureNumber d_X5_sureNumber rfl rfl 400 11 _ _ M).trans rfl
set_option maxRecDepth 100000 in
set_option maxHeartbeats 4000000 in
theorem e_X5_sureAnswers (M : pm_M) (x0 : Nat) (x1 : Int32) (x2 : Int32) : pm_C mX5_sureAnswers [.ref x0, .int x1, .int x2] M = (pm_oI (pm_C mX6_spot [.int x1, .int x2, .int 0, .int 0] M)).bind fun q1 => pm_res mX5_sureAnswers 11 [(0, .ref x0), (3, .int q1.1), (4, .int 0)] [] q1.2 := (pm_xeqC mX5_sureAnswers c_X5_sureAnswers d_X5_sureAnswers rfl rfl 400 _ M).trans rfl
set_option maxRecDepth 100000 in
set_option maxHeartbeats 4000000 in
theorem e_X5_sureAnswers_11 (M : pm_M) (x0 : Nat) (x3 : Int32) (x4 : Int32) : pm_res mX5_sureAnswers 11 [(0, .ref x0), (3, .int x3), (4, .int x4)] [] M = 
    if 9 ≤ x4 then (some (.int (-1), M))
    else ((pm_gR M 5 3 x0).bind fun g1 => (pm_aI M g1 (x3 + x4)).bind fun g2 => (pm_gI M 5 2 x0).bind fun g3 => 
      if g2 = g3 then (some (.int x4, M))
      else (pm_res mX5_sureAnswers 11 [(0, .ref x0), (3, .int x3), (4, .int (x4 + 1))] [] M)) := (pm_xeq mX5_sureAnswers c_X5_sureAnswers d_X5_sureAnswers rfl rfl 400 11 _ _ M).trans rfl
set_option maxRecDepth 100000 in
set_option maxHeartbeats 4000000 in
theorem e_X5_isSure (M : pm_M) (x0 : Nat) (x1 : Int32) (x2 : Int32) : pm_C mX5_isSure [.ref x0, .int x1, .int x2] M = pm_res mX5_isSure 2 [(0, .ref x0), (1, .int x1), (2, .int x2), (3, .int 0)] [] M := (pm_xeqC mX5_isSure c_X5_isSure d_X5_isSure rfl rfl 400 _ M).trans rfl
set_option maxRecDepth 100000 in
set_option maxHeartbeats 4000000 in
theorem e_X5_isSure_2 (M : pm_M) (x0 : Nat) (x1 : Int32) (x2 : Int32) (x3 : Int32) : pm_res mX5_isSure 2 [(0, .ref x0), (1, .int x1), (2, .int x2), (3, .int x3)] [] M = (pm_gI M 5 0 x0).bind fun g1 => 
    if g1 ≤ x3 then (some (.int 1, M))
    else ((pm_gI M 5 1 x0).bind fun g2 => (pm_oI (pm_C mX6_digit [.int x1, .int g2, .int x3] M)).bind fun q3 => pm_res mX5_isSure 24 [(0, .ref x0), (1, .int x1), (2, .int x2), (3, .int x3), (4, .int q3.1), (5, .int 0)] [] q3.2) := (pm_xeq mX5_isSure c_X5_isSure d_X5_isSure rfl rfl 400 2 _ _ M).trans rfl
set_option maxRecDepth 100000 in
set_option maxHeartbeats 4000000 in
theorem e_X5_isSure_24 (M : pm_M) (x0 : Nat) (x1 : Int32) (x2 : Int32) (x3 : Int32) (x4 : Int32) (x5 : Int32) : pm_res mX5_isSure 24 [(0, .ref x0), (1, .int x1), (2, .int x2), (3, .int x3), (4, .int x4), (5, .int x5)] [] M = (pm_gI M 5 0 x0).bind fun g1 => 
    if g1 ≤ x5 then (pm_res mX5_isSure 2 [(0, .ref x0), (1, .int x1), (2, .int x2), (3, .int (x3 + 1))] [] M)
    else ((pm_gI M 5 1 x0).bind fun g2 => (pm_oI (pm_C mX6_digit [.int x2, .int g2, .int x5] M)).bind fun q3 => (pm_gR q3.2 5 3 x0).bind fun g4 => (pm_oI (pm_C mX6_spot [.int x3, .int x5, .int x4, .int q3.1] q3.2)).bind fun q5 => (pm_aI q5.2 g4 q5.1).bind fun g6 => (pm_gI q5.2 5 2 x0).bind fun g7 => 
      if g6 = g7 then (bif pm_kd q5.2 5 x0 then ((pm_oI (pm_C mX5_rowSum [.ref x0, .int x3, .int x5] q5.2)).bind fun q8 => (pm_gI q8.2 5 2 x0).bind fun g9 => 
        if q8.1 = g9 then (pm_res mX5_isSure 24 [(0, .ref x0), (1, .int x1), (2, .int x2), (3, .int x3), (4, .int x4), (5, .int (x5 + 1))] [] q8.2)
        else (some (.int 0, q8.2))) else none)
      else (some (.int 0, q5.2))) := (pm_xeq mX5_isSure c_X5_isSure d_X5_isSure rfl rfl 400 24 _ _ M).trans rfl
set_option maxRecDepth 100000 in
set_option maxHeartbeats 4000000 in
theorem e_X5_agreement (M : pm_M) (x0 : Nat) (x1 : Int32) (x2 : Int32) : pm_C mX5_agreement [.ref x0, .int x1, .int x2] M = (pm_gR M 5 3 x0).bind fun g1 => (pm_oI (pm_C mX6_spot [.int x1, .int x2, .int 0, .int 0] M)).bind fun q2 => (pm_aI q2.2 g1 q2.1).bind fun g3 => (pm_gR q2.2 5 3 x0).bind fun g4 => (pm_oI (pm_C mX6_spot [.int x1, .int x2, .int 1, .int 1] q2.2)).bind fun q5 => (pm_aI q5.2 g4 q5.1).bind fun g6 => (pm_gR q5.2 5 3 x0).bind fun g7 => (pm_oI (pm_C mX6_spot [.int x1, .int x2, .int 0, .int 1] q5.2)).bind fun q8 => (pm_aI q8.2 g7 q8.1).bind fun g9 => (pm_gR q8.2 5 3 x0).bind fun g10 => (pm_oI (pm_C mX6_spot [.int x1, .int x2, .int 1, .int 0] q8.2)).bind fun q11 => (pm_aI q11.2 g10 q11.1).bind fun g12 => some (.long (((g3.toInt64 + g6.toInt64) - g9.toInt64) - g12.toInt64), q11.2) := (pm_xeqC mX5_agreement c_X5_agreement d_X5_agreement rfl rfl 400 _ M).trans rfl
set_option maxRecDepth 100000 in
set_option maxHeartbeats 4000000 in
theorem e_X5_cornerLaw (M : pm_M) (x0 : Nat) (x1 : Int32) : pm_C mX5_cornerLaw [.ref x0, .int x1] M = bif pm_kd M 5 x0 then ((pm_oL (pm_C mX5_agreement [.ref x0, .int 0, .int 0] M)).bind fun q1 => bif pm_kd q1.2 5 x0 then ((pm_oL (pm_C mX5_agreement [.ref x0, .int 0, .int 1] q1.2)).bind fun q2 => bif pm_kd q2.2 5 x0 then ((pm_oL (pm_C mX5_agreement [.ref x0, .int 1, .int 0] q2.2)).bind fun q3 => bif pm_kd q3.2 5 x0 then ((pm_oL (pm_C mX5_agreement [.ref x0, .int 1, .int 1] q3.2)).bind fun q4 => bif pm_kd q4.2 5 x0 then ((pm_oL (pm_C mX5_agreement [.ref x0, .int ((x1 / 2) / 2), .int (pm_rem (x1 / 2) 2)] q4.2)).bind fun q5 => 
    if (pm_rem x1 2) = 0 then (some (.long ((((q1.1 + q2.1) + q3.1) + q4.1) - (2 * q5.1)), q5.2))
    else (some (.long (-((((q1.1 + q2.1) + q3.1) + q4.1) - (2 * q5.1))), q5.2))) else none) else none) else none) else none) else none := (pm_xeqC mX5_cornerLaw c_X5_cornerLaw d_X5_cornerLaw rfl rfl 400 _ M).trans rfl
set_option maxRecDepth 100000 in
set_option maxHeartbeats 4000000 in
theorem e_X5_greatestCornerLaw (M : pm_M) (x0 : Nat) : pm_C mX5_greatestCornerLaw [.ref x0] M = pm_res mX5_greatestCornerLaw 4 [(0, .ref x0), (1, .int 0), (2, .int 1)] [] M := (pm_xeqC mX5_greatestCornerLaw c_X5_greatestCornerLaw d_X5_greatestCornerLaw rfl rfl 400 _ M).trans rfl
set_option maxRecDepth 100000 in
set_option maxHeartbeats 4000000 in
theorem e_X5_greatestCornerLaw_4 (M : pm_M) (x0 : Nat) (x1 : Int32) (x2 : Int32) : pm_res mX5_greatestCornerLaw 4 [(0, .ref x0), (1, .int x1), (2, .int x2)] [] M = 
    if 8 ≤ x2 then (some (.int x1, M))
    else (bif pm_kd M 5 x0 then ((pm_oL (pm_C mX5_cornerLaw [.ref x0, .int x2] M)).bind fun q1 => bif pm_kd q1.2 5 x0 then ((pm_oL (pm_C mX5_cornerLaw [.ref x0, .int x1] q1.2)).bind fun q2 => 
      if (lg_cmp q1.1 q2.1) ≤ 0 then (pm_res mX5_greatestCornerLaw 4 [(0, .ref x0), (1, .int x1), (2, .int (x2 + 1))] [] q2.2)
      else (pm_res mX5_greatestCornerLaw 4 [(0, .ref x0), (1, .int x2), (2, .int (x2 + 1))] [] q2.2)) else none) else none) := (pm_xeq mX5_greatestCornerLaw c_X5_greatestCornerLaw d_X5_greatestCornerLaw rfl rfl 400 4 _ _ M).trans rfl
set_option maxRecDepth 100000 in
set_option maxHeartbeats 4000000 in
theorem e_J7_fill_d0a16 (M : pm_M) (x0 : Nat) (x1 : Int64) : pm_C mJ7_fill_d0a16 [.ref x0, .long x1] M = (pm_al M x0).bind fun g1 => pm_res mJ7_fill_d0a16 6 [(0, .ref x0), (1, .long x1), (3, .int 0), (4, .int g1)] [] M := (pm_xeqC mJ7_fill_d0a16 c_J7_fill_d0a16 d_J7_fill_d0a16 rfl rfl 400 _ M).trans rfl
set_option maxRecDepth 100000 in
set_option maxHeartbeats 4000000 in
theorem e_J7_fill_d0a16_6 (M : pm_M) (x0 : Nat) (x1 : Int64) (x3 : Int32) (x4 : Int32) : pm_res mJ7_fill_d0a16 6 [(0, .ref x0), (1, .long x1), (3, .int x3), (4, .int x4)] [] M = 
    if x4 ≤ x3 then (some (.null, M))
    else ((pm_sL M x0 x3 x1).bind fun m1 => pm_res mJ7_fill_d0a16 6 [(0, .ref x0), (1, .long x1), (3, .int (x3 + 1)), (4, .int x4)] [] m1) := (pm_xeq mJ7_fill_d0a16 c_J7_fill_d0a16 d_J7_fill_d0a16 rfl rfl 400 6 _ _ M).trans rfl
set_option maxRecDepth 100000 in
set_option maxHeartbeats 4000000 in
theorem e_J7_fill_53178 (M : pm_M) (x0 : Nat) (x1 : Int32) : pm_C mJ7_fill_53178 [.ref x0, .int x1] M = (pm_al M x0).bind fun g1 => pm_res mJ7_fill_53178 5 [(0, .ref x0), (1, .int x1), (2, .int 0), (3, .int g1)] [] M := (pm_xeqC mJ7_fill_53178 c_J7_fill_53178 d_J7_fill_53178 rfl rfl 400 _ M).trans rfl
set_option maxRecDepth 100000 in
set_option maxHeartbeats 4000000 in
theorem e_J7_fill_53178_5 (M : pm_M) (x0 : Nat) (x1 : Int32) (x2 : Int32) (x3 : Int32) : pm_res mJ7_fill_53178 5 [(0, .ref x0), (1, .int x1), (2, .int x2), (3, .int x3)] [] M = 
    if x3 ≤ x2 then (some (.null, M))
    else ((pm_sI M x0 x2 x1).bind fun m1 => pm_res mJ7_fill_53178 5 [(0, .ref x0), (1, .int x1), (2, .int (x2 + 1)), (3, .int x3)] [] m1) := (pm_xeq mJ7_fill_53178 c_J7_fill_53178 d_J7_fill_53178 rfl rfl 400 5 _ _ M).trans rfl
