set_option maxRecDepth 100000 in
set_option maxHeartbeats 4000000 in
theorem e_X7_init (M : pm_M) (x0 : Nat) : pm_C mX7_init [.ref x0] M = (pm_pR (pm_new M (8, 672)) 7 0 x0 (M).1.length).bind fun m1 => (pm_pR (pm_new m1 (8, 4032)) 7 1 x0 (m1).1.length).bind fun m2 => (pm_pI m2 7 3 x0 2).bind fun m3 => (pm_pI m3 7 4 x0 2).bind fun m4 => (pm_pR (pm_new m4 (8, 81)) 7 5 x0 (m4).1.length).bind fun m5 => (pm_pR (pm_new m5 (8, 729)) 7 6 x0 (m5).1.length).bind fun m6 => (pm_pR (pm_new m6 (9, 81)) 7 7 x0 (m6).1.length).bind fun m7 => (pm_pI m7 7 2 x0 0).bind fun m8 => some (.null, m8) := (pm_xeqC mX7_init c_X7_init d_X7_init rfl rfl 400 _ M).trans rfl
set_option maxRecDepth 100000 in
set_option maxHeartbeats 4000000 in
theorem e_X7_isIn (M : pm_M) (x0 : Int64) (x2 : Int64) (x4 : Int64) : pm_C mX7_isIn [.long x0, .long x2, .long x4] M = 
    if (lg_cmp x0 x2) < 0 then (some (.int 0, M))
    else (
      if 0 < (lg_cmp x0 x4) then (some (.int 0, M))
      else (some (.int 1, M))) := (pm_xeqC mX7_isIn c_X7_isIn d_X7_isIn rfl rfl 400 _ M).trans rfl
set_option maxRecDepth 100000 in
set_option maxHeartbeats 4000000 in
theorem e_X7_isTable (M : pm_M) (x0 : Int32) : pm_C mX7_isTable [.int x0] M = (pm_oI (pm_C mX7_isIn [.long x0.toInt64, .long 0, .long 7] M)).bind fun q1 => if q1.1 = 0 ∨ q1.1 = 1 then some (.int q1.1, q1.2) else none := (pm_xeqC mX7_isTable c_X7_isTable d_X7_isTable rfl rfl 400 _ M).trans rfl
set_option maxRecDepth 100000 in
set_option maxHeartbeats 4000000 in
theorem e_X7_q (M : pm_M) (x0 : Nat) (x1 : Int32) : pm_C mX7_q [.ref x0, .int x1] M = (pm_gR M 7 0 x0).bind fun g1 => (pm_aI M g1 (84 * x1)).bind fun g2 => some (.int g2, M) := (pm_xeqC mX7_q c_X7_q d_X7_q rfl rfl 400 _ M).trans rfl
set_option maxRecDepth 100000 in
set_option maxHeartbeats 4000000 in
theorem e_X7_a (M : pm_M) (x0 : Nat) (x1 : Int32) : pm_C mX7_a [.ref x0, .int x1] M = (pm_gR M 7 0 x0).bind fun g1 => (pm_aI M g1 ((84 * x1) + 1)).bind fun g2 => some (.int g2, M) := (pm_xeqC mX7_a c_X7_a d_X7_a rfl rfl 400 _ M).trans rfl
set_option maxRecDepth 100000 in
set_option maxHeartbeats 4000000 in
theorem e_X7_whole (M : pm_M) (x0 : Nat) (x1 : Int32) : pm_C mX7_whole [.ref x0, .int x1] M = (pm_gR M 7 0 x0).bind fun g1 => (pm_aI M g1 ((84 * x1) + 2)).bind fun g2 => some (.int g2, M) := (pm_xeqC mX7_whole c_X7_whole d_X7_whole rfl rfl 400 _ M).trans rfl
set_option maxRecDepth 100000 in
set_option maxHeartbeats 4000000 in
theorem e_X7_isMissing (M : pm_M) (x0 : Nat) (x1 : Int32) : pm_C mX7_isMissing [.ref x0, .int x1] M = bif pm_kd M 7 x0 then ((pm_oI (pm_C mX7_q [.ref x0, .int x1] M)).bind fun q1 => 
    if q1.1 = 0 then (some (.int 1, q1.2))
    else (some (.int 0, q1.2))) else none := (pm_xeqC mX7_isMissing c_X7_isMissing d_X7_isMissing rfl rfl 400 _ M).trans rfl
set_option maxRecDepth 100000 in
set_option maxHeartbeats 4000000 in
theorem e_X7_place (M : pm_M) (x0 : Int32) (x1 : Int32) (x2 : Int32) (x3 : Int32) : pm_C mX7_place [.int x0, .int x1, .int x2, .int x3] M = some (.int ((((27 * x0) + (9 * x1)) + (3 * x2)) + x3), M) := (pm_xeqC mX7_place c_X7_place d_X7_place rfl rfl 400 _ M).trans rfl
set_option maxRecDepth 100000 in
set_option maxHeartbeats 4000000 in
theorem e_X7_get (M : pm_M) (x0 : Nat) (x1 : Int32) (x2 : Int32) (x3 : Int32) (x4 : Int32) (x5 : Int32) : pm_C mX7_get [.ref x0, .int x1, .int x2, .int x3, .int x4, .int x5] M = (pm_gR M 7 0 x0).bind fun g1 => (pm_oI (pm_C mX7_place [.int x2, .int x3, .int x4, .int x5] M)).bind fun q2 => (pm_aI q2.2 g1 (((84 * x1) + 3) + q2.1)).bind fun g3 => some (.int g3, q2.2) := (pm_xeqC mX7_get c_X7_get d_X7_get rfl rfl 400 _ M).trans rfl
set_option maxRecDepth 100000 in
set_option maxHeartbeats 4000000 in
theorem e_X7_isPair (M : pm_M) (x0 : Int32) (x1 : Int32) : pm_C mX7_isPair [.int x0, .int x1] M = (pm_oI (pm_C mX7_isIn [.long x0.toInt64, .long 0, .long 8] M)).bind fun q1 => 
    if q1.1 = 0 then (some (.int 0, q1.2))
    else (
      if x1 ≤ (x0 / 3) then (some (.int 0, q1.2))
      else (
        if x1 ≤ (pm_rem x0 3) then (some (.int 0, q1.2))
        else (some (.int 1, q1.2)))) := (pm_xeqC mX7_isPair c_X7_isPair d_X7_isPair rfl rfl 400 _ M).trans rfl
set_option maxRecDepth 100000 in
set_option maxHeartbeats 4000000 in
theorem e_X7_isShape (M : pm_M) (x0 : Int32) (x1 : Int32) : pm_C mX7_isShape [.int x0, .int x1] M = (pm_oI (pm_C mX7_isIn [.long x0.toInt64, .long 1, .long 3] M)).bind fun q1 => 
    if q1.1 = 0 then (some (.int 0, q1.2))
    else ((pm_oI (pm_C mX7_isIn [.long x1.toInt64, .long 2, .long 3] q1.2)).bind fun q2 => 
      if q2.1 = 0 then (some (.int 0, q2.2))
      else (some (.int 1, q2.2))) := (pm_xeqC mX7_isShape c_X7_isShape d_X7_isShape rfl rfl 400 _ M).trans rfl
set_option maxRecDepth 100000 in
set_option maxHeartbeats 4000000 in
theorem e_X7_keep (M : pm_M) (x0 : Nat) : pm_C mX7_keep [.ref x0] M = (pm_gI M 7 2 x0).bind fun g1 => 
    if g1 = 6 then (pm_res mX7_keep 11 [(0, .ref x0), (1, .int 0)] [] M)
    else (pm_res mX7_keep 52 [(0, .ref x0), (1, .int 0)] [] M) := (pm_xeqC mX7_keep c_X7_keep d_X7_keep rfl rfl 400 _ M).trans rfl
set_option maxRecDepth 100000 in
set_option maxHeartbeats 4000000 in
theorem e_X7_keep_11 (M : pm_M) (x0 : Nat) (x1 : Int32) : pm_res mX7_keep 11 [(0, .ref x0), (1, .int x1)] [] M = 
    if 3360 ≤ x1 then ((pm_gI M 7 2 x0).bind fun g1 => (pm_pI M 7 2 x0 (g1 - 1)).bind fun m2 => pm_res mX7_keep 52 [(0, .ref x0), (1, .int 0)] [] m2)
    else ((pm_gR M 7 1 x0).bind fun g3 => (pm_gR M 7 1 x0).bind fun g4 => (pm_aI M g4 (x1 + 672)).bind fun g5 => (pm_sI M g3 x1 g5).bind fun m6 => pm_res mX7_keep 11 [(0, .ref x0), (1, .int (x1 + 1))] [] m6) := (pm_xeq mX7_keep c_X7_keep d_X7_keep rfl rfl 400 11 _ _ M).trans rfl
set_option maxRecDepth 100000 in
set_option maxHeartbeats 4000000 in
theorem e_X7_keep_52 (M : pm_M) (x0 : Nat) (x1 : Int32) : pm_res mX7_keep 52 [(0, .ref x0), (1, .int x1)] [] M = 
    if 672 ≤ x1 then ((pm_gI M 7 2 x0).bind fun g1 => (pm_pI M 7 2 x0 (g1 + 1)).bind fun m2 => some (.null, m2))
    else ((pm_gR M 7 1 x0).bind fun g3 => (pm_gI M 7 2 x0).bind fun g4 => (pm_gR M 7 0 x0).bind fun g5 => (pm_aI M g5 x1).bind fun g6 => (pm_sI M g3 ((672 * g4) + x1) g6).bind fun m7 => pm_res mX7_keep 52 [(0, .ref x0), (1, .int (x1 + 1))] [] m7) := (pm_xeq mX7_keep c_X7_keep d_X7_keep rfl rfl 400 52 _ _ M).trans rfl
set_option maxRecDepth 100000 in
set_option maxHeartbeats 4000000 in
theorem e_X7_undo (M : pm_M) (x0 : Nat) : pm_C mX7_undo [.ref x0] M = (pm_gI M 7 2 x0).bind fun g1 => 
    if g1 = 0 then (some (.long pm_NO, M))
    else ((pm_gI M 7 2 x0).bind fun g2 => (pm_pI M 7 2 x0 (g2 - 1)).bind fun m3 => pm_res mX7_undo 23 [(0, .ref x0), (1, .int 0)] [] m3) := (pm_xeqC mX7_undo c_X7_undo d_X7_undo rfl rfl 400 _ M).trans rfl
set_option maxRecDepth 100000 in
set_option maxHeartbeats 4000000 in
theorem e_X7_undo_23 (M : pm_M) (x0 : Nat) (x1 : Int32) : pm_res mX7_undo 23 [(0, .ref x0), (1, .int x1)] [] M = 
    if 672 ≤ x1 then ((pm_gI M 7 2 x0).bind fun g1 => some (.long g1.toInt64, M))
    else ((pm_gR M 7 0 x0).bind fun g2 => (pm_gR M 7 1 x0).bind fun g3 => (pm_gI M 7 2 x0).bind fun g4 => (pm_aI M g3 ((672 * g4) + x1)).bind fun g5 => (pm_sI M g2 x1 g5).bind fun m6 => pm_res mX7_undo 23 [(0, .ref x0), (1, .int (x1 + 1))] [] m6) := (pm_xeq mX7_undo c_X7_undo d_X7_undo rfl rfl 400 23 _ _ M).trans rfl
set_option maxRecDepth 100000 in
set_option maxHeartbeats 4000000 in
theorem e_X7_empty (M : pm_M) (x0 : Nat) (x1 : Int32) (x2 : Int32) (x3 : Int32) (x4 : Int32) : pm_C mX7_empty [.ref x0, .int x1, .int x2, .int x3, .int x4] M = (pm_gR M 7 0 x0).bind fun g1 => (pm_sI M g1 (84 * x1) x2).bind fun m2 => (pm_gR m2 7 0 x0).bind fun g3 => (pm_sI m2 g3 ((84 * x1) + 1) x3).bind fun m4 => (pm_gR m4 7 0 x0).bind fun g5 => (pm_sI m4 g5 ((84 * x1) + 2) x4).bind fun m6 => pm_res mX7_empty 38 [(0, .ref x0), (1, .int x1), (5, .int 0)] [] m6 := (pm_xeqC mX7_empty c_X7_empty d_X7_empty rfl rfl 400 _ M).trans rfl
set_option maxRecDepth 100000 in
set_option maxHeartbeats 4000000 in
theorem e_X7_empty_38 (M : pm_M) (x0 : Nat) (x1 : Int32) (x5 : Int32) : pm_res mX7_empty 38 [(0, .ref x0), (1, .int x1), (5, .int x5)] [] M = 
    if 81 ≤ x5 then (some (.null, M))
    else ((pm_gR M 7 0 x0).bind fun g1 => (pm_sI M g1 (((84 * x1) + 3) + x5) 0).bind fun m2 => pm_res mX7_empty 38 [(0, .ref x0), (1, .int x1), (5, .int (x5 + 1))] [] m2) := (pm_xeq mX7_empty c_X7_empty d_X7_empty rfl rfl 400 38 _ _ M).trans rfl
set_option maxRecDepth 100000 in
set_option maxHeartbeats 4000000 in
theorem e_X7_shape (M : pm_M) (x0 : Nat) (x1 : Int32) (x2 : Int32) (x3 : Int32) (x4 : Int32) : pm_C mX7_shape [.ref x0, .int x1, .int x2, .int x3, .int x4] M = (pm_oI (pm_C mX7_isTable [.int x1] M)).bind fun q1 => 
    if q1.1 = 0 then (some (.long pm_BAD, q1.2))
    else ((pm_oI (pm_C mX7_isShape [.int x2, .int x3] q1.2)).bind fun q2 => 
      if q2.1 = 0 then (some (.long pm_BAD, q2.2))
      else ((pm_oI (pm_C mX7_isIn [.long x4.toInt64, .long 1, .long 1000000] q2.2)).bind fun q3 => 
        if q3.1 = 0 then (some (.long pm_BAD, q3.2))
        else (bif pm_kd q3.2 7 x0 then ((pm_oV (pm_C mX7_keep [.ref x0] q3.2)).bind fun m4 => bif pm_kd m4 7 x0 then ((pm_oV (pm_C mX7_empty [.ref x0, .int x1, .int x2, .int x3, .int x4] m4)).bind fun m5 => some (.long ((((x2 * x2) * x3) * x3)).toInt64, m5)) else none) else none))) := (pm_xeqC mX7_shape c_X7_shape d_X7_shape rfl rfl 400 _ M).trans rfl
set_option maxRecDepth 100000 in
set_option maxHeartbeats 4000000 in
theorem e_X7_lose (M : pm_M) (x0 : Nat) (x1 : Int32) : pm_C mX7_lose [.ref x0, .int x1] M = (pm_oI (pm_C mX7_isTable [.int x1] M)).bind fun q1 => 
    if q1.1 = 0 then (some (.long pm_BAD, q1.2))
    else (bif pm_kd q1.2 7 x0 then ((pm_oI (pm_C mX7_isMissing [.ref x0, .int x1] q1.2)).bind fun q2 => 
      if q2.1 = 0 then (bif pm_kd q2.2 7 x0 then ((pm_oV (pm_C mX7_keep [.ref x0] q2.2)).bind fun m3 => bif pm_kd m3 7 x0 then ((pm_oV (pm_C mX7_empty [.ref x0, .int x1, .int 0, .int 0, .int 0] m3)).bind fun m4 => some (.long 0, m4)) else none) else none)
      else (some (.long pm_NO, q2.2))) else none) := (pm_xeqC mX7_lose c_X7_lose d_X7_lose rfl rfl 400 _ M).trans rfl
set_option maxRecDepth 100000 in
set_option maxHeartbeats 4000000 in
theorem e_X7_asked (M : pm_M) (x0 : Nat) (x1 : Int32) : pm_C mX7_asked [.ref x0, .int x1] M = (pm_oI (pm_C mX7_isTable [.int x1] M)).bind fun q1 => 
    if q1.1 = 0 then (some (.long pm_BAD, q1.2))
    else (bif pm_kd q1.2 7 x0 then ((pm_oI (pm_C mX7_isMissing [.ref x0, .int x1] q1.2)).bind fun q2 => 
      if q2.1 = 0 then (some (.long 0, q2.2))
      else (some (.long pm_NO, q2.2))) else none) := (pm_xeqC mX7_asked c_X7_asked d_X7_asked rfl rfl 400 _ M).trans rfl
set_option maxRecDepth 100000 in
set_option maxHeartbeats 4000000 in
theorem e_X7_cell (M : pm_M) (x0 : Nat) (x1 : Int32) (x2 : Int32) (x3 : Int32) (x4 : Int32) : pm_C mX7_cell [.ref x0, .int x1, .int x2, .int x3, .int x4] M = bif pm_kd M 7 x0 then ((pm_oL (pm_C mX7_asked [.ref x0, .int x1] M)).bind fun q1 => 
    if (lg_cmp q1.1 0) = 0 then (bif pm_kd q1.2 7 x0 then ((pm_oI (pm_C mX7_q [.ref x0, .int x1] q1.2)).bind fun q2 => (pm_oI (pm_C mX7_isPair [.int x2, .int q2.1] q2.2)).bind fun q3 => 
      if q3.1 = 0 then (some (.long pm_BAD, q3.2))
      else (bif pm_kd q3.2 7 x0 then ((pm_oI (pm_C mX7_a [.ref x0, .int x1] q3.2)).bind fun q4 => (pm_oI (pm_C mX7_isPair [.int x3, .int q4.1] q4.2)).bind fun q5 => 
        if q5.1 = 0 then (some (.long pm_BAD, q5.2))
        else (bif pm_kd q5.2 7 x0 then ((pm_oI (pm_C mX7_whole [.ref x0, .int x1] q5.2)).bind fun q6 => (pm_oI (pm_C mX7_isIn [.long x4.toInt64, .long 0, .long (q6.1).toInt64] q6.2)).bind fun q7 => 
          if q7.1 = 0 then (some (.long pm_BAD, q7.2))
          else (bif pm_kd q7.2 7 x0 then ((pm_oV (pm_C mX7_keep [.ref x0] q7.2)).bind fun m8 => (pm_gR m8 7 0 x0).bind fun g9 => (pm_aI m8 g9 ((((84 * x1) + 3) + (9 * x2)) + x3)).bind fun g10 => (pm_gR m8 7 0 x0).bind fun g11 => (pm_sI m8 g11 ((((84 * x1) + 3) + (9 * x2)) + x3) x4).bind fun m12 => some (.long g10.toInt64, m12)) else none)) else none)) else none)) else none)
    else (some (.long q1.1, q1.2))) else none := (pm_xeqC mX7_cell c_X7_cell d_X7_cell rfl rfl 400 _ M).trans rfl
set_option maxRecDepth 100000 in
set_option maxHeartbeats 4000000 in
theorem e_X7_power (M : pm_M) (x0 : Int32) (x1 : Int32) : pm_C mX7_power [.int x0, .int x1] M = pm_res mX7_power 4 [(0, .int x0), (1, .int x1), (2, .int 1), (3, .int 0)] [] M := (pm_xeqC mX7_power c_X7_power d_X7_power rfl rfl 400 _ M).trans rfl
set_option maxRecDepth 100000 in
set_option maxHeartbeats 4000000 in
theorem e_X7_power_4 (M : pm_M) (x0 : Int32) (x1 : Int32) (x2 : Int32) (x3 : Int32) : pm_res mX7_power 4 [(0, .int x0), (1, .int x1), (2, .int x2), (3, .int x3)] [] M = 
    if x1 ≤ x3 then (some (.int x2, M))
    else (pm_res mX7_power 4 [(0, .int x0), (1, .int x1), (2, .int (x2 * x0)), (3, .int (x3 + 1))] [] M) := (pm_xeq mX7_power c_X7_power d_X7_power rfl rfl 400 4 _ _ M).trans rfl
set_option maxRecDepth 100000 in
set_option maxHeartbeats 4000000 in
theorem e_X7_digit (M : pm_M) (x0 : Int32) (x1 : Int32) (x2 : Int32) : pm_C mX7_digit [.int x0, .int x1, .int x2] M = (pm_oI (pm_C mX7_power [.int x1, .int x2] M)).bind fun q1 => pm_nz (decide (q1.1 = 0)) <| pm_nz (decide (x1 = 0)) <| some (.int (pm_rem (x0 / q1.1) x1), q1.2) := (pm_xeqC mX7_digit c_X7_digit d_X7_digit rfl rfl 400 _ M).trans rfl
set_option maxRecDepth 100000 in
set_option maxHeartbeats 4000000 in
theorem e_X7_answer (M : pm_M) (x0 : Int32) (x1 : Int32) (x2 : Int32) (x3 : Int32) (x4 : Int32) : pm_C mX7_answer [.int x0, .int x1, .int x2, .int x3, .int x4] M = (pm_oI (pm_C mX7_power [.int x1, .int x0] M)).bind fun q1 => 
    if x3 = 0 then (pm_nz (decide (q1.1 = 0)) <| (pm_oI (pm_C mX7_digit [.int (x2 / q1.1), .int x1, .int x4] q1.2)).bind fun q2 => some (.int q2.1, q2.2))
    else (pm_nz (decide (q1.1 = 0)) <| (pm_oI (pm_C mX7_digit [.int (pm_rem x2 q1.1), .int x1, .int x4] q1.2)).bind fun q3 => some (.int q3.1, q3.2)) := (pm_xeqC mX7_answer c_X7_answer d_X7_answer rfl rfl 400 _ M).trans rfl
set_option maxRecDepth 100000 in
set_option maxHeartbeats 4000000 in
theorem e_X7_laySure (M : pm_M) (x0 : Nat) (x1 : Int32) (x2 : Int32) (x3 : Int32) (x4 : Int32) : pm_C mX7_laySure [.ref x0, .int x1, .int x2, .int x3, .int x4] M = bif pm_kd M 7 x0 then ((pm_oV (pm_C mX7_empty [.ref x0, .int x1, .int x2, .int x3, .int 1] M)).bind fun m1 => pm_res mX7_laySure 11 [(0, .ref x0), (1, .int x1), (2, .int x2), (3, .int x3), (4, .int x4), (5, .int 0)] [] m1) else none := (pm_xeqC mX7_laySure c_X7_laySure d_X7_laySure rfl rfl 400 _ M).trans rfl
set_option maxRecDepth 100000 in
set_option maxHeartbeats 4000000 in
theorem e_X7_laySure_11 (M : pm_M) (x0 : Nat) (x1 : Int32) (x2 : Int32) (x3 : Int32) (x4 : Int32) (x5 : Int32) : pm_res mX7_laySure 11 [(0, .ref x0), (1, .int x1), (2, .int x2), (3, .int x3), (4, .int x4), (5, .int x5)] [] M = 
    if x2 ≤ x5 then (some (.null, M))
    else (pm_res mX7_laySure 20 [(0, .ref x0), (1, .int x1), (2, .int x2), (3, .int x3), (4, .int x4), (5, .int x5), (6, .int 0)] [] M) := (pm_xeq mX7_laySure c_X7_laySure d_X7_laySure rfl rfl 400 11 _ _ M).trans rfl
set_option maxRecDepth 100000 in
set_option maxHeartbeats 4000000 in
theorem e_X7_laySure_20 (M : pm_M) (x0 : Nat) (x1 : Int32) (x2 : Int32) (x3 : Int32) (x4 : Int32) (x5 : Int32) (x6 : Int32) : pm_res mX7_laySure 20 [(0, .ref x0), (1, .int x1), (2, .int x2), (3, .int x3), (4, .int x4), (5, .int x5), (6, .int x6)] [] M = 
    if x2 ≤ x6 then (pm_res mX7_laySure 11 [(0, .ref x0), (1, .int x1), (2, .int x2), (3, .int x3), (4, .int x4), (5, .int (x5 + 1))] [] M)
    else ((pm_gR M 7 0 x0).bind fun g1 => (pm_oI (pm_C mX7_answer [.int x2, .int x3, .int x4, .int 0, .int x5] M)).bind fun q2 => (pm_oI (pm_C mX7_answer [.int x2, .int x3, .int x4, .int 1, .int x6] q2.2)).bind fun q3 => (pm_oI (pm_C mX7_place [.int x5, .int x6, .int q2.1, .int q3.1] q3.2)).bind fun q4 => (pm_sI q4.2 g1 (((84 * x1) + 3) + q4.1) 1).bind fun m5 => pm_res mX7_laySure 20 [(0, .ref x0), (1, .int x1), (2, .int x2), (3, .int x3), (4, .int x4), (5, .int x5), (6, .int (x6 + 1))] [] m5) := (pm_xeq mX7_laySure c_X7_laySure d_X7_laySure rfl rfl 400 20 _ _ M).trans rfl
set_option maxRecDepth 100000 in
set_option maxHeartbeats 4000000 in
theorem e_X7_sure (M : pm_M) (x0 : Nat) (x1 : Int32) (x2 : Int32) (x3 : Int32) (x4 : Int32) : pm_C mX7_sure [.ref x0, .int x1, .int x2, .int x3, .int x4] M = (pm_oI (pm_C mX7_isTable [.int x1] M)).bind fun q1 => 
    if q1.1 = 0 then (some (.long pm_BAD, q1.2))
    else ((pm_oI (pm_C mX7_isShape [.int x2, .int x3] q1.2)).bind fun q2 => 
      if q2.1 = 0 then (some (.long pm_BAD, q2.2))
      else ((pm_oI (pm_C mX7_power [.int x3, .int (2 * x2)] q2.2)).bind fun q3 => (pm_oI (pm_C mX7_isIn [.long x4.toInt64, .long 0, .long ((q3.1 - 1)).toInt64] q3.2)).bind fun q4 => 
        if q4.1 = 0 then (some (.long pm_BAD, q4.2))
        else (bif pm_kd q4.2 7 x0 then ((pm_oV (pm_C mX7_keep [.ref x0] q4.2)).bind fun m5 => bif pm_kd m5 7 x0 then ((pm_oV (pm_C mX7_laySure [.ref x0, .int x1, .int x2, .int x3, .int x4] m5)).bind fun m6 => some (.long 0, m6)) else none) else none))) := (pm_xeqC mX7_sure c_X7_sure d_X7_sure rfl rfl 400 _ M).trans rfl
set_option maxRecDepth 100000 in
set_option maxHeartbeats 4000000 in
theorem e_X7_hasCell (M : pm_M) (x0 : Int32) (x1 : Int32) (x2 : Int32) (x3 : Int32) (x4 : Int32) : pm_C mX7_hasCell [.int x0, .int x1, .int x2, .int x3, .int x4] M = 
    if (pm_rem (x3 + x4) 2) = (pm_rem ((((x1 * x2) + ((pm_rem (x0 / 4) 2) * x1)) + ((pm_rem (x0 / 2) 2) * x2)) + (pm_rem x0 2)) 2) then (some (.int 1, M))
    else (some (.int 0, M)) := (pm_xeqC mX7_hasCell c_X7_hasCell d_X7_hasCell rfl rfl 400 _ M).trans rfl
set_option maxRecDepth 100000 in
set_option maxHeartbeats 4000000 in
theorem e_X7_corner (M : pm_M) (x0 : Nat) (x1 : Int32) (x2 : Int32) : pm_C mX7_corner [.ref x0, .int x1, .int x2] M = (pm_oI (pm_C mX7_isTable [.int x1] M)).bind fun q1 => 
    if q1.1 = 0 then (some (.long pm_BAD, q1.2))
    else ((pm_oI (pm_C mX7_isIn [.long x2.toInt64, .long 0, .long 23] q1.2)).bind fun q2 => 
      if q2.1 = 0 then (some (.long pm_BAD, q2.2))
      else (bif pm_kd q2.2 7 x0 then ((pm_oV (pm_C mX7_keep [.ref x0] q2.2)).bind fun m3 => 
        if 16 ≤ x2 then (bif pm_kd m3 7 x0 then ((pm_oV (pm_C mX7_empty [.ref x0, .int x1, .int 2, .int 2, .int 2] m3)).bind fun m4 => pm_res mX7_corner 53 [(0, .ref x0), (1, .int x1), (2, .int x2), (3, .int 0)] [] m4) else none)
        else (bif pm_kd m3 7 x0 then ((pm_oV (pm_C mX7_laySure [.ref x0, .int x1, .int 2, .int 2, .int x2] m3)).bind fun m5 => some (.long 0, m5)) else none)) else none)) := (pm_xeqC mX7_corner c_X7_corner d_X7_corner rfl rfl 400 _ M).trans rfl
set_option maxRecDepth 100000 in
set_option maxHeartbeats 4000000 in
theorem e_X7_corner_53 (M : pm_M) (x0 : Nat) (x1 : Int32) (x2 : Int32) (x3 : Int32) : pm_res mX7_corner 53 [(0, .ref x0), (1, .int x1), (2, .int x2), (3, .int x3)] [] M = 
    if 16 ≤ x3 then (some (.long 0, M))
    else ((pm_gR M 7 0 x0).bind fun g1 => (pm_oI (pm_C mX7_place [.int (x3 / 8), .int (pm_rem (x3 / 4) 2), .int (pm_rem (x3 / 2) 2), .int (pm_rem x3 2)] M)).bind fun q2 => (pm_oI (pm_C mX7_hasCell [.int (x2 - 16), .int (x3 / 8), .int (pm_rem (x3 / 4) 2), .int (pm_rem (x3 / 2) 2), .int (pm_rem x3 2)] q2.2)).bind fun q3 => 
      if q3.1 = 0 then ((pm_sI q3.2 g1 (((84 * x1) + 3) + q2.1) 0).bind fun m4 => pm_res mX7_corner 53 [(0, .ref x0), (1, .int x1), (2, .int x2), (3, .int (x3 + 1))] [] m4)
      else ((pm_sI q3.2 g1 (((84 * x1) + 3) + q2.1) 1).bind fun m5 => pm_res mX7_corner 53 [(0, .ref x0), (1, .int x1), (2, .int x2), (3, .int (x3 + 1))] [] m5)) := (pm_xeq mX7_corner c_X7_corner d_X7_corner rfl rfl 400 53 _ _ M).trans rfl
set_option maxRecDepth 100000 in
set_option maxHeartbeats 4000000 in
theorem e_X7_about (M : pm_M) (x0 : Nat) (x1 : Int32) (x2 : Int32) : pm_C mX7_about [.ref x0, .int x1, .int x2] M = (pm_oI (pm_C mX7_isTable [.int x1] M)).bind fun q1 => 
    if q1.1 = 0 then (some (.long pm_BAD, q1.2))
    else ((pm_oI (pm_C mX7_isIn [.long x2.toInt64, .long 0, .long 3] q1.2)).bind fun q2 => 
      if q2.1 = 0 then (some (.long pm_BAD, q2.2))
      else (bif pm_kd q2.2 7 x0 then ((pm_oI (pm_C mX7_isMissing [.ref x0, .int x1] q2.2)).bind fun q3 => 
        if q3.1 = 0 then (
          if 3 ≤ x2 then (pm_res mX7_about 58 [(0, .ref x0), (1, .int x1), (3, .int 0), (4, .int 0)] [] q3.2)
          else ((pm_gR q3.2 7 0 x0).bind fun g4 => (pm_aI q3.2 g4 ((84 * x1) + x2)).bind fun g5 => some (.long g5.toInt64, q3.2)))
        else (some (.long pm_NO, q3.2))) else none)) := (pm_xeqC mX7_about c_X7_about d_X7_about rfl rfl 400 _ M).trans rfl
set_option maxRecDepth 100000 in
set_option maxHeartbeats 4000000 in
theorem e_X7_about_58 (M : pm_M) (x0 : Nat) (x1 : Int32) (x3 : Int32) (x4 : Int32) : pm_res mX7_about 58 [(0, .ref x0), (1, .int x1), (3, .int x3), (4, .int x4)] [] M = 
    if 81 ≤ x4 then (some (.long x3.toInt64, M))
    else ((pm_gR M 7 0 x0).bind fun g1 => (pm_aI M g1 (((84 * x1) + 3) + x4)).bind fun g2 => 
      if g2 = 0 then (pm_res mX7_about 58 [(0, .ref x0), (1, .int x1), (3, .int (x3 + 0)), (4, .int (x4 + 1))] [] M)
      else (pm_res mX7_about 58 [(0, .ref x0), (1, .int x1), (3, .int (x3 + 1)), (4, .int (x4 + 1))] [] M)) := (pm_xeq mX7_about c_X7_about d_X7_about rfl rfl 400 58 _ _ M).trans rfl
set_option maxRecDepth 100000 in
set_option maxHeartbeats 4000000 in
theorem e_X7_chance (M : pm_M) (x0 : Nat) (x1 : Int32) (x2 : Int32) (x3 : Int32) : pm_C mX7_chance [.ref x0, .int x1, .int x2, .int x3] M = bif pm_kd M 7 x0 then ((pm_oL (pm_C mX7_asked [.ref x0, .int x1] M)).bind fun q1 => 
    if (lg_cmp q1.1 0) = 0 then (bif pm_kd q1.2 7 x0 then ((pm_oI (pm_C mX7_q [.ref x0, .int x1] q1.2)).bind fun q2 => (pm_oI (pm_C mX7_isPair [.int x2, .int q2.1] q2.2)).bind fun q3 => 
      if q3.1 = 0 then (some (.long pm_BAD, q3.2))
      else (bif pm_kd q3.2 7 x0 then ((pm_oI (pm_C mX7_a [.ref x0, .int x1] q3.2)).bind fun q4 => (pm_oI (pm_C mX7_isPair [.int x3, .int q4.1] q4.2)).bind fun q5 => 
        if q5.1 = 0 then (some (.long pm_BAD, q5.2))
        else ((pm_gR q5.2 7 0 x0).bind fun g6 => (pm_aI q5.2 g6 ((((84 * x1) + 3) + (9 * x2)) + x3)).bind fun g7 => some (.long g7.toInt64, q5.2))) else none)) else none)
    else (some (.long q1.1, q1.2))) else none := (pm_xeqC mX7_chance c_X7_chance d_X7_chance rfl rfl 400 _ M).trans rfl
set_option maxRecDepth 100000 in
set_option maxHeartbeats 4000000 in
theorem e_X7_takeAside (M : pm_M) (x0 : Nat) (x1 : Int32) : pm_C mX7_takeAside [.ref x0, .int x1] M = pm_res mX7_takeAside 2 [(0, .ref x0), (1, .int x1), (2, .int 0)] [] M := (pm_xeqC mX7_takeAside c_X7_takeAside d_X7_takeAside rfl rfl 400 _ M).trans rfl
set_option maxRecDepth 100000 in
set_option maxHeartbeats 4000000 in
theorem e_X7_takeAside_2 (M : pm_M) (x0 : Nat) (x1 : Int32) (x2 : Int32) : pm_res mX7_takeAside 2 [(0, .ref x0), (1, .int x1), (2, .int x2)] [] M = 
    if 81 ≤ x2 then (some (.null, M))
    else ((pm_gR M 7 7 x0).bind fun g1 => (pm_gR M 7 0 x0).bind fun g2 => (pm_aI M g2 (((84 * x1) + 3) + x2)).bind fun g3 => (pm_sL M g1 x2 g3.toInt64).bind fun m4 => pm_res mX7_takeAside 2 [(0, .ref x0), (1, .int x1), (2, .int (x2 + 1))] [] m4) := (pm_xeq mX7_takeAside c_X7_takeAside d_X7_takeAside rfl rfl 400 2 _ _ M).trans rfl
set_option maxRecDepth 100000 in
set_option maxHeartbeats 4000000 in
theorem e_X7_swapped (M : pm_M) (x0 : Int32) (x1 : Int32) (x2 : Int32) : pm_C mX7_swapped [.int x0, .int x1, .int x2] M = 
    if x0 = x1 then (some (.int x2, M))
    else (
      if x0 = x2 then (some (.int x1, M))
      else (some (.int x0, M))) := (pm_xeqC mX7_swapped c_X7_swapped d_X7_swapped rfl rfl 400 _ M).trans rfl
set_option maxRecDepth 100000 in
set_option maxHeartbeats 4000000 in
theorem e_X7_swap (M : pm_M) (x0 : Nat) (x1 : Int32) (x2 : Int32) (x3 : Int32) (x4 : Int32) : pm_C mX7_swap [.ref x0, .int x1, .int x2, .int x3, .int x4] M = bif pm_kd M 7 x0 then ((pm_oL (pm_C mX7_asked [.ref x0, .int x1] M)).bind fun q1 => 
    if (lg_cmp q1.1 0) = 0 then ((pm_oI (pm_C mX7_isIn [.long x2.toInt64, .long 0, .long 5] q1.2)).bind fun q2 => 
      if q2.1 = 0 then (some (.long pm_BAD, q2.2))
      else (bif pm_kd q2.2 7 x0 then ((pm_oI (pm_C mX7_q [.ref x0, .int x1] q2.2)).bind fun q3 => 
        if q3.1 ≤ (pm_rem x2 3) then (some (.long pm_BAD, q3.2))
        else (bif pm_kd q3.2 7 x0 then ((pm_oI (pm_C mX7_a [.ref x0, .int x1] q3.2)).bind fun q4 => (pm_oI (pm_C mX7_isIn [.long x3.toInt64, .long 0, .long ((q4.1 - 1)).toInt64] q4.2)).bind fun q5 => 
          if q5.1 = 0 then (some (.long pm_BAD, q5.2))
          else (bif pm_kd q5.2 7 x0 then ((pm_oI (pm_C mX7_a [.ref x0, .int x1] q5.2)).bind fun q6 => (pm_oI (pm_C mX7_isIn [.long x4.toInt64, .long 0, .long ((q6.1 - 1)).toInt64] q6.2)).bind fun q7 => 
            if q7.1 = 0 then (some (.long pm_BAD, q7.2))
            else (bif pm_kd q7.2 7 x0 then ((pm_oV (pm_C mX7_keep [.ref x0] q7.2)).bind fun m8 => bif pm_kd m8 7 x0 then ((pm_oV (pm_C mX7_takeAside [.ref x0, .int x1] m8)).bind fun m9 => pm_res mX7_swap 100 [(0, .ref x0), (1, .int x1), (3, .int x3), (4, .int x4), (7, .int (x2 / 3)), (8, .int (pm_rem x2 3)), (9, .int 0)] [] m9) else none) else none)) else none)) else none)) else none))
    else (some (.long q1.1, q1.2))) else none := (pm_xeqC mX7_swap c_X7_swap d_X7_swap rfl rfl 400 _ M).trans rfl
set_option maxRecDepth 100000 in
set_option maxHeartbeats 4000000 in
theorem e_X7_swap_100 (M : pm_M) (x0 : Nat) (x1 : Int32) (x3 : Int32) (x4 : Int32) (x7 : Int32) (x8 : Int32) (x9 : Int32) : pm_res mX7_swap 100 [(0, .ref x0), (1, .int x1), (3, .int x3), (4, .int x4), (7, .int x7), (8, .int x8), (9, .int x9)] [] M = 
    if 81 ≤ x9 then (some (.long 0, M))
    else (
      if x7 = 0 then (
        if (x9 / 27) = x8 then (pm_res mX7_swap 154 [(0, .ref x0), (1, .int x1), (3, .int x3), (4, .int x4), (7, .int x7), (8, .int x8), (9, .int x9), (10, .int (x9 / 27)), (11, .int (pm_rem (x9 / 9) 3)), (12, .int (pm_rem (x9 / 3) 3)), (13, .int (pm_rem x9 3))] [.int 1] M)
        else (pm_res mX7_swap 154 [(0, .ref x0), (1, .int x1), (3, .int x3), (4, .int x4), (7, .int x7), (8, .int x8), (9, .int x9), (10, .int (x9 / 27)), (11, .int (pm_rem (x9 / 9) 3)), (12, .int (pm_rem (x9 / 3) 3)), (13, .int (pm_rem x9 3))] [.int 0] M))
      else (pm_res mX7_swap 154 [(0, .ref x0), (1, .int x1), (3, .int x3), (4, .int x4), (7, .int x7), (8, .int x8), (9, .int x9), (10, .int (x9 / 27)), (11, .int (pm_rem (x9 / 9) 3)), (12, .int (pm_rem (x9 / 3) 3)), (13, .int (pm_rem x9 3))] [.int 0] M)) := (pm_xeq mX7_swap c_X7_swap d_X7_swap rfl rfl 400 100 _ _ M).trans rfl
set_option maxRecDepth 100000 in
set_option maxHeartbeats 4000000 in
theorem e_X7_swap_154 (M : pm_M) (x0 : Nat) (x1 : Int32) (x3 : Int32) (x4 : Int32) (x7 : Int32) (x8 : Int32) (x9 : Int32) (x10 : Int32) (x11 : Int32) (x12 : Int32) (x13 : Int32) (y0 : Int32) : pm_res mX7_swap 154 [(0, .ref x0), (1, .int x1), (3, .int x3), (4, .int x4), (7, .int x7), (8, .int x8), (9, .int x9), (10, .int x10), (11, .int x11), (12, .int x12), (13, .int x13)] [.int y0] M = 
    if x7 = 1 then (
      if x11 = x8 then (pm_res mX7_swap 174 [(0, .ref x0), (1, .int x1), (3, .int x3), (4, .int x4), (7, .int x7), (8, .int x8), (9, .int x9), (10, .int x10), (11, .int x11), (12, .int x12), (13, .int x13), (14, .int y0)] [.int 1] M)
      else (pm_res mX7_swap 174 [(0, .ref x0), (1, .int x1), (3, .int x3), (4, .int x4), (7, .int x7), (8, .int x8), (9, .int x9), (10, .int x10), (11, .int x11), (12, .int x12), (13, .int x13), (14, .int y0)] [.int 0] M))
    else (pm_res mX7_swap 174 [(0, .ref x0), (1, .int x1), (3, .int x3), (4, .int x4), (7, .int x7), (8, .int x8), (9, .int x9), (10, .int x10), (11, .int x11), (12, .int x12), (13, .int x13), (14, .int y0)] [.int 0] M) := (pm_xeq mX7_swap c_X7_swap d_X7_swap rfl rfl 400 154 _ _ M).trans rfl
set_option maxRecDepth 100000 in
set_option maxHeartbeats 4000000 in
theorem e_X7_swap_174 (M : pm_M) (x0 : Nat) (x1 : Int32) (x3 : Int32) (x4 : Int32) (x7 : Int32) (x8 : Int32) (x9 : Int32) (x10 : Int32) (x11 : Int32) (x12 : Int32) (x13 : Int32) (x14 : Int32) (y0 : Int32) : pm_res mX7_swap 174 [(0, .ref x0), (1, .int x1), (3, .int x3), (4, .int x4), (7, .int x7), (8, .int x8), (9, .int x9), (10, .int x10), (11, .int x11), (12, .int x12), (13, .int x13), (14, .int x14)] [.int y0] M = (pm_gR M 7 0 x0).bind fun g1 => (pm_gR M 7 7 x0).bind fun g2 => 
    if x14 = 0 then (pm_res mX7_swap 215 [(0, .ref x0), (1, .int x1), (3, .int x3), (4, .int x4), (7, .int x7), (8, .int x8), (9, .int x9), (13, .int x13), (15, .int y0)] [.int x12, .int x11, .int x10, .ref g2, .int (((84 * x1) + 3) + x9), .ref g1] M)
    else ((pm_oI (pm_C mX7_swapped [.int x12, .int x3, .int x4] M)).bind fun q3 => pm_res mX7_swap 215 [(0, .ref x0), (1, .int x1), (3, .int x3), (4, .int x4), (7, .int x7), (8, .int x8), (9, .int x9), (13, .int x13), (15, .int y0)] [.int q3.1, .int x11, .int x10, .ref g2, .int (((84 * x1) + 3) + x9), .ref g1] q3.2) := (pm_xeq mX7_swap c_X7_swap d_X7_swap rfl rfl 400 174 _ _ M).trans rfl
set_option maxRecDepth 100000 in
set_option maxHeartbeats 4000000 in
theorem e_X7_swap_215 (M : pm_M) (x0 : Nat) (x1 : Int32) (x3 : Int32) (x4 : Int32) (x7 : Int32) (x8 : Int32) (x9 : Int32) (x13 : Int32) (x15 : Int32) (y0 : Int32) (y1 : Int32) (y2 : Int32) (y3 : Nat) (y4 : Int32) (y5 : Nat) : pm_res mX7_swap 215 [(0, .ref x0), (1, .int x1), (3, .int x3), (4, .int x4), (7, .int x7), (8, .int x8), (9, .int x9), (13, .int x13), (15, .int x15)] [.int y0, .int y1, .int y2, .ref y3, .int y4, .ref y5] M = 
    if x15 = 0 then (pm_res mX7_swap 233 [(0, .ref x0), (1, .int x1), (3, .int x3), (4, .int x4), (7, .int x7), (8, .int x8), (9, .int x9)] [.int x13, .int y0, .int y1, .int y2, .ref y3, .int y4, .ref y5] M)
    else ((pm_oI (pm_C mX7_swapped [.int x13, .int x3, .int x4] M)).bind fun q1 => pm_res mX7_swap 233 [(0, .ref x0), (1, .int x1), (3, .int x3), (4, .int x4), (7, .int x7), (8, .int x8), (9, .int x9)] [.int q1.1, .int y0, .int y1, .int y2, .ref y3, .int y4, .ref y5] q1.2) := (pm_xeq mX7_swap c_X7_swap d_X7_swap rfl rfl 400 215 _ _ M).trans rfl
set_option maxRecDepth 100000 in
set_option maxHeartbeats 4000000 in
theorem e_X7_swap_233 (M : pm_M) (x0 : Nat) (x1 : Int32) (x3 : Int32) (x4 : Int32) (x7 : Int32) (x8 : Int32) (x9 : Int32) (y0 : Int32) (y1 : Int32) (y2 : Int32) (y3 : Int32) (y4 : Nat) (y5 : Int32) (y6 : Nat) : pm_res mX7_swap 233 [(0, .ref x0), (1, .int x1), (3, .int x3), (4, .int x4), (7, .int x7), (8, .int x8), (9, .int x9)] [.int y0, .int y1, .int y2, .int y3, .ref y4, .int y5, .ref y6] M = (pm_oI (pm_C mX7_place [.int y3, .int y2, .int y1, .int y0] M)).bind fun q1 => (pm_aL q1.2 y4 q1.1).bind fun g2 => (pm_sI q1.2 y6 y5 g2.toInt32).bind fun m3 => pm_res mX7_swap 100 [(0, .ref x0), (1, .int x1), (3, .int x3), (4, .int x4), (7, .int x7), (8, .int x8), (9, .int (x9 + 1))] [] m3 := (pm_xeq mX7_swap c_X7_swap d_X7_swap rfl rfl 400 233 _ _ M).trans rfl
set_option maxRecDepth 100000 in
set_option maxHeartbeats 4000000 in
theorem e_X7_turn (M : pm_M) (x0 : Nat) (x1 : Int32) (x2 : Int32) : pm_C mX7_turn [.ref x0, .int x1, .int x2] M = bif pm_kd M 7 x0 then ((pm_oL (pm_C mX7_asked [.ref x0, .int x1] M)).bind fun q1 => 
    if (lg_cmp q1.1 0) = 0 then ((pm_oI (pm_C mX7_isIn [.long x2.toInt64, .long 0, .long 2] q1.2)).bind fun q2 => 
      if q2.1 = 0 then (some (.long pm_BAD, q2.2))
      else (bif pm_kd q2.2 7 x0 then ((pm_oV (pm_C mX7_keep [.ref x0] q2.2)).bind fun m3 => bif pm_kd m3 7 x0 then ((pm_oV (pm_C mX7_takeAside [.ref x0, .int x1] m3)).bind fun m4 => bif pm_kd m4 7 x0 then ((pm_oI (pm_C mX7_q [.ref x0, .int x1] m4)).bind fun q5 => pm_res mX7_turn 51 [(0, .ref x0), (1, .int x1), (2, .int x2), (5, .int (q5.1 - 1)), (6, .int 0)] [] q5.2) else none) else none) else none))
    else (some (.long q1.1, q1.2))) else none := (pm_xeqC mX7_turn c_X7_turn d_X7_turn rfl rfl 400 _ M).trans rfl
set_option maxRecDepth 100000 in
set_option maxHeartbeats 4000000 in
theorem e_X7_turn_51 (M : pm_M) (x0 : Nat) (x1 : Int32) (x2 : Int32) (x5 : Int32) (x6 : Int32) : pm_res mX7_turn 51 [(0, .ref x0), (1, .int x1), (2, .int x2), (5, .int x5), (6, .int x6)] [] M = 
    if x5 < x6 then (some (.long 0, M))
    else (pm_res mX7_turn 61 [(0, .ref x0), (1, .int x1), (2, .int x2), (5, .int x5), (6, .int x6), (7, .int 0)] [] M) := (pm_xeq mX7_turn c_X7_turn d_X7_turn rfl rfl 400 51 _ _ M).trans rfl
set_option maxRecDepth 100000 in
set_option maxHeartbeats 4000000 in
theorem e_X7_turn_61 (M : pm_M) (x0 : Nat) (x1 : Int32) (x2 : Int32) (x5 : Int32) (x6 : Int32) (x7 : Int32) : pm_res mX7_turn 61 [(0, .ref x0), (1, .int x1), (2, .int x2), (5, .int x5), (6, .int x6), (7, .int x7)] [] M = 
    if x5 < x7 then (pm_res mX7_turn 51 [(0, .ref x0), (1, .int x1), (2, .int x2), (5, .int x5), (6, .int (x6 + 1))] [] M)
    else (pm_res mX7_turn 71 [(0, .ref x0), (1, .int x1), (2, .int x2), (5, .int x5), (6, .int x6), (7, .int x7), (8, .int 0)] [] M) := (pm_xeq mX7_turn c_X7_turn d_X7_turn rfl rfl 400 61 _ _ M).trans rfl
set_option maxRecDepth 100000 in
set_option maxHeartbeats 4000000 in
theorem e_X7_turn_71 (M : pm_M) (x0 : Nat) (x1 : Int32) (x2 : Int32) (x5 : Int32) (x6 : Int32) (x7 : Int32) (x8 : Int32) : pm_res mX7_turn 71 [(0, .ref x0), (1, .int x1), (2, .int x2), (5, .int x5), (6, .int x6), (7, .int x7), (8, .int x8)] [] M = 
    if 9 ≤ x8 then (pm_res mX7_turn 61 [(0, .ref x0), (1, .int x1), (2, .int x2), (5, .int x5), (6, .int x6), (7, .int (x7 + 1))] [] M)
    else (
      if x2 = 0 then ((pm_oI (pm_C mX7_place [.int x7, .int x6, .int (pm_rem x8 3), .int (x8 / 3)] M)).bind fun q1 => pm_res mX7_turn 144 [(0, .ref x0), (1, .int x1), (2, .int x2), (5, .int x5), (6, .int x6), (7, .int x7), (8, .int x8), (9, .int (x8 / 3)), (10, .int (pm_rem x8 3))] [.int q1.1] q1.2)
      else (
        if x2 = 1 then ((pm_oI (pm_C mX7_place [.int (x5 - x6), .int x7, .int (x8 / 3), .int (pm_rem x8 3)] M)).bind fun q2 => pm_res mX7_turn 144 [(0, .ref x0), (1, .int x1), (2, .int x2), (5, .int x5), (6, .int x6), (7, .int x7), (8, .int x8), (9, .int (x8 / 3)), (10, .int (pm_rem x8 3))] [.int q2.1] q2.2)
        else ((pm_oI (pm_C mX7_place [.int x6, .int (x5 - x7), .int (x8 / 3), .int (pm_rem x8 3)] M)).bind fun q3 => pm_res mX7_turn 144 [(0, .ref x0), (1, .int x1), (2, .int x2), (5, .int x5), (6, .int x6), (7, .int x7), (8, .int x8), (9, .int (x8 / 3)), (10, .int (pm_rem x8 3))] [.int q3.1] q3.2))) := (pm_xeq mX7_turn c_X7_turn d_X7_turn rfl rfl 400 71 _ _ M).trans rfl
set_option maxRecDepth 100000 in
set_option maxHeartbeats 4000000 in
theorem e_X7_turn_144 (M : pm_M) (x0 : Nat) (x1 : Int32) (x2 : Int32) (x5 : Int32) (x6 : Int32) (x7 : Int32) (x8 : Int32) (x9 : Int32) (x10 : Int32) (y0 : Int32) : pm_res mX7_turn 144 [(0, .ref x0), (1, .int x1), (2, .int x2), (5, .int x5), (6, .int x6), (7, .int x7), (8, .int x8), (9, .int x9), (10, .int x10)] [.int y0] M = (pm_gR M 7 0 x0).bind fun g1 => (pm_oI (pm_C mX7_place [.int x6, .int x7, .int x9, .int x10] M)).bind fun q2 => (pm_gR q2.2 7 7 x0).bind fun g3 => (pm_aL q2.2 g3 y0).bind fun g4 => (pm_sI q2.2 g1 (((84 * x1) + 3) + q2.1) g4.toInt32).bind fun m5 => pm_res mX7_turn 71 [(0, .ref x0), (1, .int x1), (2, .int x2), (5, .int x5), (6, .int x6), (7, .int x7), (8, .int (x8 + 1))] [] m5 := (pm_xeq mX7_turn c_X7_turn d_X7_turn rfl rfl 400 144 _ _ M).trans rfl
set_option maxRecDepth 100000 in
set_option maxHeartbeats 4000000 in
theorem e_X7_areAlike (M : pm_M) (x0 : Nat) (x1 : Int32) (x2 : Int32) : pm_C mX7_areAlike [.ref x0, .int x1, .int x2] M = bif pm_kd M 7 x0 then ((pm_oI (pm_C mX7_q [.ref x0, .int x1] M)).bind fun q1 => bif pm_kd q1.2 7 x0 then ((pm_oI (pm_C mX7_q [.ref x0, .int x2] q1.2)).bind fun q2 => 
    if q1.1 = q2.1 then (bif pm_kd q2.2 7 x0 then ((pm_oI (pm_C mX7_a [.ref x0, .int x1] q2.2)).bind fun q3 => bif pm_kd q3.2 7 x0 then ((pm_oI (pm_C mX7_a [.ref x0, .int x2] q3.2)).bind fun q4 => 
      if q3.1 = q4.1 then (pm_res mX7_areAlike 33 [(0, .ref x0), (1, .int x1), (2, .int x2), (3, .int 1), (4, .int 0)] [] q4.2)
      else (some (.int 0, q4.2))) else none) else none)
    else (some (.int 0, q2.2))) else none) else none := (pm_xeqC mX7_areAlike c_X7_areAlike d_X7_areAlike rfl rfl 400 _ M).trans rfl
set_option maxRecDepth 100000 in
set_option maxHeartbeats 4000000 in
theorem e_X7_areAlike_33 (M : pm_M) (x0 : Nat) (x1 : Int32) (x2 : Int32) (x3 : Int32) (x4 : Int32) : pm_res mX7_areAlike 33 [(0, .ref x0), (1, .int x1), (2, .int x2), (3, .int x3), (4, .int x4)] [] M = 
    if 81 ≤ x4 then (if x3 = 0 ∨ x3 = 1 then some (.int x3, M) else none)
    else (
      if x3 = 0 then (pm_res mX7_areAlike 33 [(0, .ref x0), (1, .int x1), (2, .int x2), (3, .int 0), (4, .int (x4 + 1))] [] M)
      else ((pm_gR M 7 0 x0).bind fun g1 => (pm_aI M g1 (((84 * x1) + 3) + x4)).bind fun g2 => bif pm_kd M 7 x0 then ((pm_oI (pm_C mX7_whole [.ref x0, .int x2] M)).bind fun q3 => (pm_gR q3.2 7 0 x0).bind fun g4 => (pm_aI q3.2 g4 (((84 * x2) + 3) + x4)).bind fun g5 => bif pm_kd q3.2 7 x0 then ((pm_oI (pm_C mX7_whole [.ref x0, .int x1] q3.2)).bind fun q6 => 
        if (lg_cmp (g2.toInt64 * (q3.1).toInt64) (g5.toInt64 * (q6.1).toInt64)) = 0 then (pm_res mX7_areAlike 33 [(0, .ref x0), (1, .int x1), (2, .int x2), (3, .int 1), (4, .int (x4 + 1))] [] q6.2)
        else (pm_res mX7_areAlike 33 [(0, .ref x0), (1, .int x1), (2, .int x2), (3, .int 0), (4, .int (x4 + 1))] [] q6.2)) else none) else none)) := (pm_xeq mX7_areAlike c_X7_areAlike d_X7_areAlike rfl rfl 400 33 _ _ M).trans rfl
set_option maxRecDepth 100000 in
set_option maxHeartbeats 4000000 in
theorem e_X7_same (M : pm_M) (x0 : Nat) (x1 : Int32) (x2 : Int32) : pm_C mX7_same [.ref x0, .int x1, .int x2] M = (pm_oI (pm_C mX7_isTable [.int x1] M)).bind fun q1 => 
    if q1.1 = 0 then (some (.long pm_BAD, q1.2))
    else ((pm_oI (pm_C mX7_isTable [.int x2] q1.2)).bind fun q2 => 
      if q2.1 = 0 then (some (.long pm_BAD, q2.2))
      else (bif pm_kd q2.2 7 x0 then ((pm_oI (pm_C mX7_isMissing [.ref x0, .int x1] q2.2)).bind fun q3 => 
        if q3.1 = 0 then (bif pm_kd q3.2 7 x0 then ((pm_oI (pm_C mX7_isMissing [.ref x0, .int x2] q3.2)).bind fun q4 => 
          if q4.1 = 0 then (bif pm_kd q4.2 7 x0 then ((pm_oI (pm_C mX7_areAlike [.ref x0, .int x1, .int x2] q4.2)).bind fun q5 => 
            if q5.1 = 0 then (some (.long 0, q5.2))
            else (some (.long 1, q5.2))) else none)
          else (some (.long pm_NO, q4.2))) else none)
        else (some (.long pm_NO, q3.2))) else none)) := (pm_xeqC mX7_same c_X7_same d_X7_same rfl rfl 400 _ M).trans rfl
set_option maxRecDepth 100000 in
set_option maxHeartbeats 4000000 in
theorem e_X7_isProper (M : pm_M) (x0 : Nat) (x1 : Int32) : pm_C mX7_isProper [.ref x0, .int x1] M = pm_res mX7_isProper 4 [(0, .ref x0), (1, .int x1), (2, .int 1), (3, .int 0)] [] M := (pm_xeqC mX7_isProper c_X7_isProper d_X7_isProper rfl rfl 400 _ M).trans rfl
set_option maxRecDepth 100000 in
set_option maxHeartbeats 4000000 in
theorem e_X7_isProper_4 (M : pm_M) (x0 : Nat) (x1 : Int32) (x2 : Int32) (x3 : Int32) : pm_res mX7_isProper 4 [(0, .ref x0), (1, .int x1), (2, .int x2), (3, .int x3)] [] M = bif pm_kd M 7 x0 then ((pm_oI (pm_C mX7_q [.ref x0, .int x1] M)).bind fun q1 => 
    if q1.1 ≤ x3 then (if x2 = 0 ∨ x2 = 1 then some (.int x2, q1.2) else none)
    else (pm_res mX7_isProper 16 [(0, .ref x0), (1, .int x1), (2, .int x2), (3, .int x3), (4, .int 0)] [] q1.2)) else none := (pm_xeq mX7_isProper c_X7_isProper d_X7_isProper rfl rfl 400 4 _ _ M).trans rfl
set_option maxRecDepth 100000 in
set_option maxHeartbeats 4000000 in
theorem e_X7_isProper_16 (M : pm_M) (x0 : Nat) (x1 : Int32) (x2 : Int32) (x3 : Int32) (x4 : Int32) : pm_res mX7_isProper 16 [(0, .ref x0), (1, .int x1), (2, .int x2), (3, .int x3), (4, .int x4)] [] M = bif pm_kd M 7 x0 then ((pm_oI (pm_C mX7_q [.ref x0, .int x1] M)).bind fun q1 => 
    if q1.1 ≤ x4 then (pm_res mX7_isProper 4 [(0, .ref x0), (1, .int x1), (2, .int x2), (3, .int (x3 + 1))] [] q1.2)
    else (pm_res mX7_isProper 32 [(0, .ref x0), (1, .int x1), (2, .int x2), (3, .int x3), (4, .int x4), (5, .long 0), (7, .int 0)] [] q1.2)) else none := (pm_xeq mX7_isProper c_X7_isProper d_X7_isProper rfl rfl 400 16 _ _ M).trans rfl
set_option maxRecDepth 100000 in
set_option maxHeartbeats 4000000 in
theorem e_X7_isProper_32 (M : pm_M) (x0 : Nat) (x1 : Int32) (x2 : Int32) (x3 : Int32) (x4 : Int32) (x5 : Int64) (x7 : Int32) : pm_res mX7_isProper 32 [(0, .ref x0), (1, .int x1), (2, .int x2), (3, .int x3), (4, .int x4), (5, .long x5), (7, .int x7)] [] M = 
    if 9 ≤ x7 then (
      if x2 = 0 then (pm_res mX7_isProper 16 [(0, .ref x0), (1, .int x1), (2, .int 0), (3, .int x3), (4, .int (x4 + 1))] [] M)
      else (bif pm_kd M 7 x0 then ((pm_oI (pm_C mX7_whole [.ref x0, .int x1] M)).bind fun q1 => 
        if (lg_cmp x5 (q1.1).toInt64) = 0 then (pm_res mX7_isProper 16 [(0, .ref x0), (1, .int x1), (2, .int 1), (3, .int x3), (4, .int (x4 + 1))] [] q1.2)
        else (pm_res mX7_isProper 16 [(0, .ref x0), (1, .int x1), (2, .int 0), (3, .int x3), (4, .int (x4 + 1))] [] q1.2)) else none))
    else (bif pm_kd M 7 x0 then ((pm_oI (pm_C mX7_get [.ref x0, .int x1, .int x3, .int x4, .int (x7 / 3), .int (pm_rem x7 3)] M)).bind fun q2 => pm_res mX7_isProper 32 [(0, .ref x0), (1, .int x1), (2, .int x2), (3, .int x3), (4, .int x4), (5, .long (x5 + (q2.1).toInt64)), (7, .int (x7 + 1))] [] q2.2) else none) := (pm_xeq mX7_isProper c_X7_isProper d_X7_isProper rfl rfl 400 32 _ _ M).trans rfl
set_option maxRecDepth 100000 in
set_option maxHeartbeats 4000000 in
theorem e_X7_side (M : pm_M) (x0 : Nat) (x1 : Int32) (x2 : Int32) (x3 : Int32) (x4 : Int32) (x5 : Int32) : pm_C mX7_side [.ref x0, .int x1, .int x2, .int x3, .int x4, .int x5] M = pm_res mX7_side 6 [(0, .ref x0), (1, .int x1), (2, .int x2), (3, .int x3), (4, .int x4), (5, .int x5), (6, .long 0), (8, .int 0)] [] M := (pm_xeqC mX7_side c_X7_side d_X7_side rfl rfl 400 _ M).trans rfl
set_option maxRecDepth 100000 in
set_option maxHeartbeats 4000000 in
theorem e_X7_side_6 (M : pm_M) (x0 : Nat) (x1 : Int32) (x2 : Int32) (x3 : Int32) (x4 : Int32) (x5 : Int32) (x6 : Int64) (x8 : Int32) : pm_res mX7_side 6 [(0, .ref x0), (1, .int x1), (2, .int x2), (3, .int x3), (4, .int x4), (5, .int x5), (6, .long x6), (8, .int x8)] [] M = 
    if 3 ≤ x8 then (some (.long x6, M))
    else (
      if x2 = 0 then (bif pm_kd M 7 x0 then ((pm_oI (pm_C mX7_get [.ref x0, .int x1, .int x3, .int x5, .int x4, .int x8] M)).bind fun q1 => pm_res mX7_side 6 [(0, .ref x0), (1, .int x1), (2, .int x2), (3, .int x3), (4, .int x4), (5, .int x5), (6, .long (x6 + (q1.1).toInt64)), (8, .int (x8 + 1))] [] q1.2) else none)
      else (bif pm_kd M 7 x0 then ((pm_oI (pm_C mX7_get [.ref x0, .int x1, .int x5, .int x3, .int x8, .int x4] M)).bind fun q2 => pm_res mX7_side 6 [(0, .ref x0), (1, .int x1), (2, .int x2), (3, .int x3), (4, .int x4), (5, .int x5), (6, .long (x6 + (q2.1).toInt64)), (8, .int (x8 + 1))] [] q2.2) else none)) := (pm_xeq mX7_side c_X7_side d_X7_side rfl rfl 400 6 _ _ M).trans rfl
set_option maxRecDepth 100000 in
set_option maxHeartbeats 4000000 in
theorem e_X7_shows (M : pm_M) (x0 : Nat) (x1 : Int32) : pm_C mX7_shows [.ref x0, .int x1] M = pm_res mX7_shows 2 [(0, .ref x0), (1, .int x1), (2, .int 0)] [] M := (pm_xeqC mX7_shows c_X7_shows d_X7_shows rfl rfl 400 _ M).trans rfl
set_option maxRecDepth 100000 in
set_option maxHeartbeats 4000000 in
theorem e_X7_shows_2 (M : pm_M) (x0 : Nat) (x1 : Int32) (x2 : Int32) : pm_res mX7_shows 2 [(0, .ref x0), (1, .int x1), (2, .int x2)] [] M = 
    if 2 ≤ x2 then (some (.long pm_NONE, M))
    else (pm_res mX7_shows 9 [(0, .ref x0), (1, .int x1), (2, .int x2), (3, .int 0)] [] M) := (pm_xeq mX7_shows c_X7_shows d_X7_shows rfl rfl 400 2 _ _ M).trans rfl
set_option maxRecDepth 100000 in
set_option maxHeartbeats 4000000 in
theorem e_X7_shows_9 (M : pm_M) (x0 : Nat) (x1 : Int32) (x2 : Int32) (x3 : Int32) : pm_res mX7_shows 9 [(0, .ref x0), (1, .int x1), (2, .int x2), (3, .int x3)] [] M = bif pm_kd M 7 x0 then ((pm_oI (pm_C mX7_q [.ref x0, .int x1] M)).bind fun q1 => 
    if q1.1 ≤ x3 then (pm_res mX7_shows 2 [(0, .ref x0), (1, .int x1), (2, .int (x2 + 1))] [] q1.2)
    else (pm_res mX7_shows 21 [(0, .ref x0), (1, .int x1), (2, .int x2), (3, .int x3), (4, .int 0)] [] q1.2)) else none := (pm_xeq mX7_shows c_X7_shows d_X7_shows rfl rfl 400 9 _ _ M).trans rfl
set_option maxRecDepth 100000 in
set_option maxHeartbeats 4000000 in
theorem e_X7_shows_21 (M : pm_M) (x0 : Nat) (x1 : Int32) (x2 : Int32) (x3 : Int32) (x4 : Int32) : pm_res mX7_shows 21 [(0, .ref x0), (1, .int x1), (2, .int x2), (3, .int x3), (4, .int x4)] [] M = bif pm_kd M 7 x0 then ((pm_oI (pm_C mX7_a [.ref x0, .int x1] M)).bind fun q1 => 
    if q1.1 ≤ x4 then (pm_res mX7_shows 9 [(0, .ref x0), (1, .int x1), (2, .int x2), (3, .int (x3 + 1))] [] q1.2)
    else (pm_res mX7_shows 34 [(0, .ref x0), (1, .int x1), (2, .int x2), (3, .int x3), (4, .int x4), (5, .int 1)] [] q1.2)) else none := (pm_xeq mX7_shows c_X7_shows d_X7_shows rfl rfl 400 21 _ _ M).trans rfl
set_option maxRecDepth 100000 in
set_option maxHeartbeats 4000000 in
theorem e_X7_shows_34 (M : pm_M) (x0 : Nat) (x1 : Int32) (x2 : Int32) (x3 : Int32) (x4 : Int32) (x5 : Int32) : pm_res mX7_shows 34 [(0, .ref x0), (1, .int x1), (2, .int x2), (3, .int x3), (4, .int x4), (5, .int x5)] [] M = bif pm_kd M 7 x0 then ((pm_oI (pm_C mX7_q [.ref x0, .int x1] M)).bind fun q1 => 
    if q1.1 ≤ x5 then (pm_res mX7_shows 21 [(0, .ref x0), (1, .int x1), (2, .int x2), (3, .int x3), (4, .int (x4 + 1))] [] q1.2)
    else (bif pm_kd q1.2 7 x0 then ((pm_oL (pm_C mX7_side [.ref x0, .int x1, .int x2, .int x3, .int x4, .int x5] q1.2)).bind fun q2 => bif pm_kd q2.2 7 x0 then ((pm_oL (pm_C mX7_side [.ref x0, .int x1, .int x2, .int x3, .int x4, .int 0] q2.2)).bind fun q3 => 
      if (lg_cmp q2.1 q3.1) = 0 then (pm_res mX7_shows 34 [(0, .ref x0), (1, .int x1), (2, .int x2), (3, .int x3), (4, .int x4), (5, .int (x5 + 1))] [] q3.2)
      else (some (.long ((((27 * x2.toInt64) + (9 * x3.toInt64)) + (3 * x4.toInt64)) + x5.toInt64), q3.2))) else none) else none)) else none := (pm_xeq mX7_shows c_X7_shows d_X7_shows rfl rfl 400 34 _ _ M).trans rfl
set_option maxRecDepth 100000 in
set_option maxHeartbeats 4000000 in
theorem e_X7_isSilent (M : pm_M) (x0 : Nat) (x1 : Int32) : pm_C mX7_isSilent [.ref x0, .int x1] M = bif pm_kd M 7 x0 then ((pm_oI (pm_C mX7_isProper [.ref x0, .int x1] M)).bind fun q1 => 
    if q1.1 = 0 then (some (.int 0, q1.2))
    else (bif pm_kd q1.2 7 x0 then ((pm_oL (pm_C mX7_shows [.ref x0, .int x1] q1.2)).bind fun q2 => 
      if (lg_cmp q2.1 pm_NONE) = 0 then (some (.int 1, q2.2))
      else (some (.int 0, q2.2))) else none)) else none := (pm_xeqC mX7_isSilent c_X7_isSilent d_X7_isSilent rfl rfl 400 _ M).trans rfl
set_option maxRecDepth 100000 in
set_option maxHeartbeats 4000000 in
theorem e_X7_isSureOf (M : pm_M) (x0 : Nat) (x1 : Int32) (x2 : Int32) : pm_C mX7_isSureOf [.ref x0, .int x1, .int x2] M = pm_res mX7_isSureOf 2 [(0, .ref x0), (1, .int x1), (2, .int x2), (3, .int 0)] [] M := (pm_xeqC mX7_isSureOf c_X7_isSureOf d_X7_isSureOf rfl rfl 400 _ M).trans rfl
set_option maxRecDepth 100000 in
set_option maxHeartbeats 4000000 in
theorem e_X7_isSureOf_2 (M : pm_M) (x0 : Nat) (x1 : Int32) (x2 : Int32) (x3 : Int32) : pm_res mX7_isSureOf 2 [(0, .ref x0), (1, .int x1), (2, .int x2), (3, .int x3)] [] M = bif pm_kd M 7 x0 then ((pm_oI (pm_C mX7_q [.ref x0, .int x1] M)).bind fun q1 => 
    if q1.1 ≤ x3 then (some (.int 1, q1.2))
    else (pm_res mX7_isSureOf 14 [(0, .ref x0), (1, .int x1), (2, .int x2), (3, .int x3), (4, .int 0)] [] q1.2)) else none := (pm_xeq mX7_isSureOf c_X7_isSureOf d_X7_isSureOf rfl rfl 400 2 _ _ M).trans rfl
set_option maxRecDepth 100000 in
set_option maxHeartbeats 4000000 in
theorem e_X7_isSureOf_14 (M : pm_M) (x0 : Nat) (x1 : Int32) (x2 : Int32) (x3 : Int32) (x4 : Int32) : pm_res mX7_isSureOf 14 [(0, .ref x0), (1, .int x1), (2, .int x2), (3, .int x3), (4, .int x4)] [] M = bif pm_kd M 7 x0 then ((pm_oI (pm_C mX7_q [.ref x0, .int x1] M)).bind fun q1 => 
    if q1.1 ≤ x4 then (pm_res mX7_isSureOf 2 [(0, .ref x0), (1, .int x1), (2, .int x2), (3, .int (x3 + 1))] [] q1.2)
    else (bif pm_kd q1.2 7 x0 then ((pm_oI (pm_C mX7_q [.ref x0, .int x1] q1.2)).bind fun q2 => bif pm_kd q2.2 7 x0 then ((pm_oI (pm_C mX7_a [.ref x0, .int x1] q2.2)).bind fun q3 => (pm_oI (pm_C mX7_answer [.int q2.1, .int q3.1, .int x2, .int 0, .int x3] q3.2)).bind fun q4 => bif pm_kd q4.2 7 x0 then ((pm_oI (pm_C mX7_q [.ref x0, .int x1] q4.2)).bind fun q5 => bif pm_kd q5.2 7 x0 then ((pm_oI (pm_C mX7_a [.ref x0, .int x1] q5.2)).bind fun q6 => (pm_oI (pm_C mX7_answer [.int q5.1, .int q6.1, .int x2, .int 1, .int x4] q6.2)).bind fun q7 => bif pm_kd q7.2 7 x0 then ((pm_oI (pm_C mX7_get [.ref x0, .int x1, .int x3, .int x4, .int q4.1, .int q7.1] q7.2)).bind fun q8 => bif pm_kd q8.2 7 x0 then ((pm_oI (pm_C mX7_whole [.ref x0, .int x1] q8.2)).bind fun q9 => 
      if q8.1 = q9.1 then (pm_res mX7_isSureOf 14 [(0, .ref x0), (1, .int x1), (2, .int x2), (3, .int x3), (4, .int (x4 + 1))] [] q9.2)
      else (some (.int 0, q9.2))) else none) else none) else none) else none) else none) else none)) else none := (pm_xeq mX7_isSureOf c_X7_isSureOf d_X7_isSureOf rfl rfl 400 14 _ _ M).trans rfl
set_option maxRecDepth 100000 in
set_option maxHeartbeats 4000000 in
theorem e_X7_sureNumber (M : pm_M) (x0 : Nat) (x1 : Int32) : pm_C mX7_sureNumber [.ref x0, .int x1] M = bif pm_kd M 7 x0 then ((pm_oI (pm_C mX7_isProper [.ref x0, .int x1] M)).bind fun q1 => 
    if q1.1 = 0 then (some (.long pm_NONE, q1.2))
    else (bif pm_kd q1.2 7 x0 then ((pm_oI (pm_C mX7_a [.ref x0, .int x1] q1.2)).bind fun q2 => bif pm_kd q2.2 7 x0 then ((pm_oI (pm_C mX7_q [.ref x0, .int x1] q2.2)).bind fun q3 => (pm_oI (pm_C mX7_power [.int q2.1, .int (2 * q3.1)] q3.2)).bind fun q4 => pm_res mX7_sureNumber 30 [(0, .ref x0), (1, .int x1), (2, .int q4.1), (3, .int 0)] [] q4.2) else none) else none)) else none := (pm_xeqC mX7_sureNumber c_X7_sureNumber d_X7_sureNumber rfl rfl 400 _ M).trans rfl
set_option maxRecDepth 100000 in
set_option maxHeartbeats 4000000 in
theorem e_X7_sureNumber_30 (M : pm_M) (x0 : Nat) (x1 : Int32) (x2 : Int32) (x3 : Int32) : pm_res mX7_sureNumber 30 [(0, .ref x0), (1, .int x1), (2, .int x2), (3, .int x3)] [] M = 
    if x2 ≤ x3 then (some (.long pm_NONE, M))
    else (bif pm_kd M 7 x0 then ((pm_oI (pm_C mX7_isSureOf [.ref x0, .int x1, .int x3] M)).bind fun q1 => 
      if q1.1 = 0 then (pm_res mX7_sureNumber 30 [(0, .ref x0), (1, .int x1), (2, .int x2), (3, .int (x3 + 1))] [] q1.2)
      else (some (.long x3.toInt64, q1.2))) else none) := (pm_xeq mX7_sureNumber c_X7_sureNumber d_X7_sureNumber rfl rfl 400 30 _ _ M).trans rfl
set_option maxRecDepth 100000 in
set_option maxHeartbeats 4000000 in
theorem e_X7_isTwo (M : pm_M) (x0 : Nat) (x1 : Int32) : pm_C mX7_isTwo [.ref x0, .int x1] M = bif pm_kd M 7 x0 then ((pm_oI (pm_C mX7_q [.ref x0, .int x1] M)).bind fun q1 => 
    if q1.1 = 2 then (bif pm_kd q1.2 7 x0 then ((pm_oI (pm_C mX7_a [.ref x0, .int x1] q1.2)).bind fun q2 => 
      if q2.1 = 2 then (some (.int 1, q2.2))
      else (some (.int 0, q2.2))) else none)
    else (some (.int 0, q1.2))) else none := (pm_xeqC mX7_isTwo c_X7_isTwo d_X7_isTwo rfl rfl 400 _ M).trans rfl
set_option maxRecDepth 100000 in
set_option maxHeartbeats 4000000 in
theorem e_X7_e (M : pm_M) (x0 : Nat) (x1 : Int32) (x2 : Int32) (x3 : Int32) : pm_C mX7_e [.ref x0, .int x1, .int x2, .int x3] M = bif pm_kd M 7 x0 then ((pm_oI (pm_C mX7_get [.ref x0, .int x1, .int x2, .int x3, .int 0, .int 0] M)).bind fun q1 => bif pm_kd q1.2 7 x0 then ((pm_oI (pm_C mX7_get [.ref x0, .int x1, .int x2, .int x3, .int 1, .int 1] q1.2)).bind fun q2 => bif pm_kd q2.2 7 x0 then ((pm_oI (pm_C mX7_get [.ref x0, .int x1, .int x2, .int x3, .int 0, .int 1] q2.2)).bind fun q3 => bif pm_kd q3.2 7 x0 then ((pm_oI (pm_C mX7_get [.ref x0, .int x1, .int x2, .int x3, .int 1, .int 0] q3.2)).bind fun q4 => some (.long ((((q1.1).toInt64 + (q2.1).toInt64) - (q3.1).toInt64) - (q4.1).toInt64), q4.2)) else none) else none) else none) else none := (pm_xeqC mX7_e c_X7_e d_X7_e rfl rfl 400 _ M).trans rfl
set_option maxRecDepth 100000 in
set_option maxHeartbeats 4000000 in
theorem e_X7_lawOf (M : pm_M) (x0 : Nat) (x1 : Int32) (x2 : Int32) : pm_C mX7_lawOf [.ref x0, .int x1, .int x2] M = bif pm_kd M 7 x0 then ((pm_oL (pm_C mX7_e [.ref x0, .int x1, .int 0, .int 0] M)).bind fun q1 => bif pm_kd q1.2 7 x0 then ((pm_oL (pm_C mX7_e [.ref x0, .int x1, .int 0, .int 1] q1.2)).bind fun q2 => bif pm_kd q2.2 7 x0 then ((pm_oL (pm_C mX7_e [.ref x0, .int x1, .int 1, .int 0] q2.2)).bind fun q3 => bif pm_kd q3.2 7 x0 then ((pm_oL (pm_C mX7_e [.ref x0, .int x1, .int 1, .int 1] q3.2)).bind fun q4 => bif pm_kd q4.2 7 x0 then ((pm_oL (pm_C mX7_e [.ref x0, .int x1, .int ((x2 / 2) / 2), .int (pm_rem (x2 / 2) 2)] q4.2)).bind fun q5 => 
    if (pm_rem x2 2) = 1 then (some (.long (-((((q1.1 + q2.1) + q3.1) + q4.1) - (2 * q5.1))), q5.2))
    else (some (.long ((((q1.1 + q2.1) + q3.1) + q4.1) - (2 * q5.1)), q5.2))) else none) else none) else none) else none) else none := (pm_xeqC mX7_lawOf c_X7_lawOf d_X7_lawOf rfl rfl 400 _ M).trans rfl
set_option maxRecDepth 100000 in
set_option maxHeartbeats 4000000 in
theorem e_X7_greatestLaw (M : pm_M) (x0 : Nat) (x1 : Int32) : pm_C mX7_greatestLaw [.ref x0, .int x1] M = pm_res mX7_greatestLaw 4 [(0, .ref x0), (1, .int x1), (2, .int 0), (3, .int 1)] [] M := (pm_xeqC mX7_greatestLaw c_X7_greatestLaw d_X7_greatestLaw rfl rfl 400 _ M).trans rfl
set_option maxRecDepth 100000 in
set_option maxHeartbeats 4000000 in
theorem e_X7_greatestLaw_4 (M : pm_M) (x0 : Nat) (x1 : Int32) (x2 : Int32) (x3 : Int32) : pm_res mX7_greatestLaw 4 [(0, .ref x0), (1, .int x1), (2, .int x2), (3, .int x3)] [] M = 
    if 8 ≤ x3 then (some (.int x2, M))
    else (bif pm_kd M 7 x0 then ((pm_oL (pm_C mX7_lawOf [.ref x0, .int x1, .int x3] M)).bind fun q1 => bif pm_kd q1.2 7 x0 then ((pm_oL (pm_C mX7_lawOf [.ref x0, .int x1, .int x2] q1.2)).bind fun q2 => 
      if (lg_cmp q1.1 q2.1) ≤ 0 then (pm_res mX7_greatestLaw 4 [(0, .ref x0), (1, .int x1), (2, .int x2), (3, .int (x3 + 1))] [] q2.2)
      else (pm_res mX7_greatestLaw 4 [(0, .ref x0), (1, .int x1), (2, .int x3), (3, .int (x3 + 1))] [] q2.2)) else none) else none) := (pm_xeq mX7_greatestLaw c_X7_greatestLaw d_X7_greatestLaw rfl rfl 400 4 _ _ M).trans rfl
set_option maxRecDepth 100000 in
set_option maxHeartbeats 4000000 in
theorem e_X7_keepsAll (M : pm_M) (x0 : Nat) (x1 : Int32) : pm_C mX7_keepsAll [.ref x0, .int x1] M = bif pm_kd M 7 x0 then ((pm_oI (pm_C mX7_greatestLaw [.ref x0, .int x1] M)).bind fun q1 => bif pm_kd q1.2 7 x0 then ((pm_oL (pm_C mX7_lawOf [.ref x0, .int x1, .int q1.1] q1.2)).bind fun q2 => bif pm_kd q2.2 7 x0 then ((pm_oI (pm_C mX7_whole [.ref x0, .int x1] q2.2)).bind fun q3 => 
    if 0 < (lg_cmp q2.1 (2 * (q3.1).toInt64)) then (some (.int 0, q3.2))
    else (some (.int 1, q3.2))) else none) else none) else none := (pm_xeqC mX7_keepsAll c_X7_keepsAll d_X7_keepsAll rfl rfl 400 _ M).trans rfl
set_option maxRecDepth 100000 in
set_option maxHeartbeats 4000000 in
theorem e_X7_isLocal (M : pm_M) (x0 : Nat) (x1 : Int32) : pm_C mX7_isLocal [.ref x0, .int x1] M = bif pm_kd M 7 x0 then ((pm_oL (pm_C mX7_sureNumber [.ref x0, .int x1] M)).bind fun q1 => 
    if (lg_cmp q1.1 pm_NONE) = 0 then (bif pm_kd q1.2 7 x0 then ((pm_oI (pm_C mX7_isSilent [.ref x0, .int x1] q1.2)).bind fun q2 => 
      if q2.1 = 0 then (some (.long 0, q2.2))
      else (bif pm_kd q2.2 7 x0 then ((pm_oI (pm_C mX7_q [.ref x0, .int x1] q2.2)).bind fun q3 => 
        if q3.1 = 1 then (some (.long 1, q3.2))
        else (bif pm_kd q3.2 7 x0 then ((pm_oI (pm_C mX7_isTwo [.ref x0, .int x1] q3.2)).bind fun q4 => 
          if q4.1 = 0 then (some (.long pm_LARGE, q4.2))
          else (bif pm_kd q4.2 7 x0 then ((pm_oI (pm_C mX7_keepsAll [.ref x0, .int x1] q4.2)).bind fun q5 => 
            if q5.1 = 0 then (some (.long 0, q5.2))
            else (some (.long 1, q5.2))) else none)) else none)) else none)) else none)
    else (some (.long 1, q1.2))) else none := (pm_xeqC mX7_isLocal c_X7_isLocal d_X7_isLocal rfl rfl 400 _ M).trans rfl
set_option maxRecDepth 100000 in
set_option maxHeartbeats 4000000 in
theorem e_X7_isOf (M : pm_M) (x0 : Nat) (x1 : Int32) (x2 : Int32) : pm_C mX7_isOf [.ref x0, .int x1, .int x2] M = (pm_oI (pm_C mX7_isTable [.int x1] M)).bind fun q1 => 
    if q1.1 = 0 then (some (.long pm_BAD, q1.2))
    else ((pm_oI (pm_C mX7_isIn [.long x2.toInt64, .long 0, .long 4] q1.2)).bind fun q2 => 
      if q2.1 = 0 then (some (.long pm_BAD, q2.2))
      else (bif pm_kd q2.2 7 x0 then ((pm_oI (pm_C mX7_isMissing [.ref x0, .int x1] q2.2)).bind fun q3 => 
        if q3.1 = 0 then (
          if x2 = 3 then (bif pm_kd q3.2 7 x0 then ((pm_oL (pm_C mX7_isLocal [.ref x0, .int x1] q3.2)).bind fun q4 => some (.long q4.1, q4.2)) else none)
          else (
            if x2 = 0 then (pm_res mX7_isOf 99 [] [.int 1] q3.2)
            else (
              if x2 = 1 then (bif pm_kd q3.2 7 x0 then ((pm_oI (pm_C mX7_isProper [.ref x0, .int x1] q3.2)).bind fun q5 => 
                if q5.1 = 0 then (pm_res mX7_isOf 99 [] [.int 0] q5.2)
                else (pm_res mX7_isOf 99 [] [.int 1] q5.2)) else none)
              else (
                if x2 = 2 then (bif pm_kd q3.2 7 x0 then ((pm_oI (pm_C mX7_isSilent [.ref x0, .int x1] q3.2)).bind fun q6 => 
                  if q6.1 = 0 then (pm_res mX7_isOf 99 [] [.int 0] q6.2)
                  else (pm_res mX7_isOf 99 [] [.int 1] q6.2)) else none)
                else (bif pm_kd q3.2 7 x0 then ((pm_oL (pm_C mX7_sureNumber [.ref x0, .int x1] q3.2)).bind fun q7 => 
                  if (lg_cmp q7.1 pm_NONE) = 0 then (pm_res mX7_isOf 99 [] [.int 0] q7.2)
                  else (pm_res mX7_isOf 99 [] [.int 1] q7.2)) else none)))))
        else (some (.long pm_NO, q3.2))) else none)) := (pm_xeqC mX7_isOf c_X7_isOf d_X7_isOf rfl rfl 400 _ M).trans rfl
set_option maxRecDepth 100000 in
set_option maxHeartbeats 4000000 in
theorem e_X7_isOf_99 (M : pm_M) (y0 : Int32) : pm_res mX7_isOf 99 [] [.int y0] M = 
    if y0 = 0 then (some (.long 0, M))
    else (some (.long 1, M)) := (pm_xeq mX7_isOf c_X7_isOf d_X7_isOf rfl rfl 400 99 _ _ M).trans rfl
set_option maxRecDepth 100000 in
set_option maxHeartbeats 4000000 in
theorem e_X7_who (M : pm_M) (x0 : Nat) (x1 : Int32) : pm_C mX7_who [.ref x0, .int x1] M = bif pm_kd M 7 x0 then ((pm_oL (pm_C mX7_asked [.ref x0, .int x1] M)).bind fun q1 => 
    if (lg_cmp q1.1 0) = 0 then (bif pm_kd q1.2 7 x0 then ((pm_oI (pm_C mX7_isProper [.ref x0, .int x1] q1.2)).bind fun q2 => 
      if q2.1 = 0 then (some (.long pm_NO, q2.2))
      else (bif pm_kd q2.2 7 x0 then ((pm_oL (pm_C mX7_shows [.ref x0, .int x1] q2.2)).bind fun q3 => some (.long q3.1, q3.2)) else none)) else none)
    else (some (.long q1.1, q1.2))) else none := (pm_xeqC mX7_who c_X7_who d_X7_who rfl rfl 400 _ M).trans rfl
set_option maxRecDepth 100000 in
set_option maxHeartbeats 4000000 in
theorem e_X7_number (M : pm_M) (x0 : Nat) (x1 : Int32) : pm_C mX7_number [.ref x0, .int x1] M = bif pm_kd M 7 x0 then ((pm_oL (pm_C mX7_asked [.ref x0, .int x1] M)).bind fun q1 => 
    if (lg_cmp q1.1 0) = 0 then (bif pm_kd q1.2 7 x0 then ((pm_oL (pm_C mX7_sureNumber [.ref x0, .int x1] q1.2)).bind fun q2 => some (.long q2.1, q2.2)) else none)
    else (some (.long q1.1, q1.2))) else none := (pm_xeqC mX7_number c_X7_number d_X7_number rfl rfl 400 _ M).trans rfl
set_option maxRecDepth 100000 in
set_option maxHeartbeats 4000000 in
theorem e_X7_law (M : pm_M) (x0 : Nat) (x1 : Int32) (x2 : Int32) : pm_C mX7_law [.ref x0, .int x1, .int x2] M = (pm_oI (pm_C mX7_isTable [.int x1] M)).bind fun q1 => 
    if q1.1 = 0 then (some (.long pm_BAD, q1.2))
    else ((pm_oI (pm_C mX7_isIn [.long x2.toInt64, .long 0, .long 7] q1.2)).bind fun q2 => 
      if q2.1 = 0 then (some (.long pm_BAD, q2.2))
      else (bif pm_kd q2.2 7 x0 then ((pm_oI (pm_C mX7_isMissing [.ref x0, .int x1] q2.2)).bind fun q3 => 
        if q3.1 = 0 then (bif pm_kd q3.2 7 x0 then ((pm_oI (pm_C mX7_isTwo [.ref x0, .int x1] q3.2)).bind fun q4 => 
          if q4.1 = 0 then (some (.long pm_NO, q4.2))
          else (bif pm_kd q4.2 7 x0 then ((pm_oI (pm_C mX7_isProper [.ref x0, .int x1] q4.2)).bind fun q5 => 
            if q5.1 = 0 then (some (.long pm_NO, q5.2))
            else (bif pm_kd q5.2 7 x0 then ((pm_oL (pm_C mX7_lawOf [.ref x0, .int x1, .int x2] q5.2)).bind fun q6 => some (.long q6.1, q6.2)) else none)) else none)) else none)
        else (some (.long pm_NO, q3.2))) else none)) := (pm_xeqC mX7_law c_X7_law d_X7_law rfl rfl 400 _ M).trans rfl
set_option maxRecDepth 100000 in
set_option maxHeartbeats 4000000 in
theorem e_X7_isSilentTwo (M : pm_M) (x0 : Nat) (x1 : Int32) : pm_C mX7_isSilentTwo [.ref x0, .int x1] M = bif pm_kd M 7 x0 then ((pm_oI (pm_C mX7_isMissing [.ref x0, .int x1] M)).bind fun q1 => 
    if q1.1 = 0 then (bif pm_kd q1.2 7 x0 then ((pm_oI (pm_C mX7_isTwo [.ref x0, .int x1] q1.2)).bind fun q2 => 
      if q2.1 = 0 then (some (.int 0, q2.2))
      else (bif pm_kd q2.2 7 x0 then ((pm_oI (pm_C mX7_isSilent [.ref x0, .int x1] q2.2)).bind fun q3 => 
        if q3.1 = 0 then (some (.int 0, q3.2))
        else (some (.int 1, q3.2))) else none)) else none)
    else (some (.int 0, q1.2))) else none := (pm_xeqC mX7_isSilentTwo c_X7_isSilentTwo d_X7_isSilentTwo rfl rfl 400 _ M).trans rfl
set_option maxRecDepth 100000 in
set_option maxHeartbeats 4000000 in
theorem e_X7_broken (M : pm_M) (x0 : Nat) (x1 : Int32) : pm_C mX7_broken [.ref x0, .int x1] M = (pm_oI (pm_C mX7_isTable [.int x1] M)).bind fun q1 => 
    if q1.1 = 0 then (some (.long pm_BAD, q1.2))
    else (bif pm_kd q1.2 7 x0 then ((pm_oI (pm_C mX7_isSilentTwo [.ref x0, .int x1] q1.2)).bind fun q2 => 
      if q2.1 = 0 then (some (.long pm_NO, q2.2))
      else (bif pm_kd q2.2 7 x0 then ((pm_oI (pm_C mX7_keepsAll [.ref x0, .int x1] q2.2)).bind fun q3 => 
        if q3.1 = 0 then (bif pm_kd q3.2 7 x0 then ((pm_oI (pm_C mX7_greatestLaw [.ref x0, .int x1] q3.2)).bind fun q4 => some (.long (q4.1).toInt64, q4.2)) else none)
        else (some (.long pm_NONE, q3.2))) else none)) else none) := (pm_xeqC mX7_broken c_X7_broken d_X7_broken rfl rfl 400 _ M).trans rfl
set_option maxRecDepth 100000 in
set_option maxHeartbeats 4000000 in
theorem e_X7_common (M : pm_M) (x0 : Int64) (x2 : Int64) : pm_C mX7_common [.long x0, .long x2] M = 
    if 0 ≤ (lg_cmp x0 0) then (pm_res mX7_common 17 [(4, .long x0), (6, .long x2)] [] M)
    else (pm_res mX7_common 17 [(4, .long (-x0)), (6, .long x2)] [] M) := (pm_xeqC mX7_common c_X7_common d_X7_common rfl rfl 400 _ M).trans rfl
set_option maxRecDepth 100000 in
set_option maxHeartbeats 4000000 in
theorem e_X7_common_17 (M : pm_M) (x4 : Int64) (x6 : Int64) : pm_res mX7_common 17 [(4, .long x4), (6, .long x6)] [] M = 
    if (lg_cmp x6 0) = 0 then (some (.long x4, M))
    else (pm_nz (decide (x6 = 0)) <| pm_res mX7_common 17 [(4, .long x6), (6, .long (pm_remL x4 x6))] [] M) := (pm_xeq mX7_common c_X7_common d_X7_common rfl rfl 400 17 _ _ M).trans rfl
set_option maxRecDepth 100000 in
set_option maxHeartbeats 4000000 in
theorem e_X7_part (M : pm_M) (x0 : Int64) (x2 : Int64) (x4 : Int32) : pm_C mX7_part [.long x0, .long x2, .int x4] M = (pm_oL (pm_C mX7_common [.long x0, .long x2] M)).bind fun q1 => 
    if x4 = 0 then (pm_nz (decide (q1.1 = 0)) <| some (.long (x0 / q1.1), q1.2))
    else (pm_nz (decide (q1.1 = 0)) <| some (.long (x2 / q1.1), q1.2)) := (pm_xeqC mX7_part c_X7_part d_X7_part rfl rfl 400 _ M).trans rfl
set_option maxRecDepth 100000 in
set_option maxHeartbeats 4000000 in
theorem e_X7_near (M : pm_M) (x0 : Nat) (x1 : Int32) (x2 : Int32) (x3 : Int32) : pm_C mX7_near [.ref x0, .int x1, .int x2, .int x3] M = (pm_oI (pm_C mX7_isTable [.int x1] M)).bind fun q1 => 
    if q1.1 = 0 then (some (.long pm_BAD, q1.2))
    else ((pm_oI (pm_C mX7_isIn [.long x2.toInt64, .long 0, .long 1] q1.2)).bind fun q2 => 
      if q2.1 = 0 then (some (.long pm_BAD, q2.2))
      else ((pm_oI (pm_C mX7_isIn [.long x3.toInt64, .long 0, .long 1] q2.2)).bind fun q3 => 
        if q3.1 = 0 then (some (.long pm_BAD, q3.2))
        else (bif pm_kd q3.2 7 x0 then ((pm_oI (pm_C mX7_isSilentTwo [.ref x0, .int x1] q3.2)).bind fun q4 => 
          if q4.1 = 0 then (some (.long pm_NO, q4.2))
          else (bif pm_kd q4.2 7 x0 then ((pm_oI (pm_C mX7_whole [.ref x0, .int x1] q4.2)).bind fun q5 => bif pm_kd q5.2 7 x0 then ((pm_oI (pm_C mX7_greatestLaw [.ref x0, .int x1] q5.2)).bind fun q6 => bif pm_kd q6.2 7 x0 then ((pm_oL (pm_C mX7_lawOf [.ref x0, .int x1, .int q6.1] q6.2)).bind fun q7 => 
            if 0 < (lg_cmp q7.1 (2 * (q5.1).toInt64)) then (
              if x2 = 0 then ((pm_oL (pm_C mX7_part [.long ((4 * (q5.1).toInt64) - q7.1), .long (2 * (q5.1).toInt64), .int x3] q7.2)).bind fun q8 => some (.long q8.1, q8.2))
              else ((pm_oL (pm_C mX7_part [.long (q7.1 - (2 * (q5.1).toInt64)), .long q7.1, .int x3] q7.2)).bind fun q9 => some (.long q9.1, q9.2)))
            else (
              if x3 = 1 then (some (.long 1, q7.2))
              else (
                if x2 = 0 then (some (.long 1, q7.2))
                else (some (.long 0, q7.2))))) else none) else none) else none)) else none))) := (pm_xeqC mX7_near c_X7_near d_X7_near rfl rfl 400 _ M).trans rfl
set_option maxRecDepth 100000 in
set_option maxHeartbeats 4000000 in
theorem e_X7_noShares (M : pm_M) (x0 : Nat) : pm_C mX7_noShares [.ref x0] M = pm_res mX7_noShares 2 [(0, .ref x0), (1, .int 0)] [] M := (pm_xeqC mX7_noShares c_X7_noShares d_X7_noShares rfl rfl 400 _ M).trans rfl
set_option maxRecDepth 100000 in
set_option maxHeartbeats 4000000 in
theorem e_X7_noShares_2 (M : pm_M) (x0 : Nat) (x1 : Int32) : pm_res mX7_noShares 2 [(0, .ref x0), (1, .int x1)] [] M = 
    if 729 ≤ x1 then (some (.null, M))
    else ((pm_gR M 7 6 x0).bind fun g1 => (pm_sI M g1 x1 0).bind fun m2 => pm_res mX7_noShares 2 [(0, .ref x0), (1, .int (x1 + 1))] [] m2) := (pm_xeq mX7_noShares c_X7_noShares d_X7_noShares rfl rfl 400 2 _ _ M).trans rfl
set_option maxRecDepth 100000 in
set_option maxHeartbeats 4000000 in
theorem e_X7_beginLaw (M : pm_M) (x0 : Nat) (x1 : Int32) (x2 : Int32) : pm_C mX7_beginLaw [.ref x0, .int x1, .int x2] M = (pm_pI M 7 3 x0 x1).bind fun m1 => (pm_pI m1 7 4 x0 x2).bind fun m2 => pm_res mX7_beginLaw 12 [(0, .ref x0), (3, .int 0)] [] m2 := (pm_xeqC mX7_beginLaw c_X7_beginLaw d_X7_beginLaw rfl rfl 400 _ M).trans rfl
set_option maxRecDepth 100000 in
set_option maxHeartbeats 4000000 in
theorem e_X7_beginLaw_12 (M : pm_M) (x0 : Nat) (x3 : Int32) : pm_res mX7_beginLaw 12 [(0, .ref x0), (3, .int x3)] [] M = 
    if 81 ≤ x3 then (bif pm_kd M 7 x0 then ((pm_oV (pm_C mX7_noShares [.ref x0] M)).bind fun m1 => some (.null, m1)) else none)
    else ((pm_gR M 7 5 x0).bind fun g2 => (pm_sI M g2 x3 0).bind fun m3 => pm_res mX7_beginLaw 12 [(0, .ref x0), (3, .int (x3 + 1))] [] m3) := (pm_xeq mX7_beginLaw c_X7_beginLaw d_X7_beginLaw rfl rfl 400 12 _ _ M).trans rfl
set_option maxRecDepth 100000 in
set_option maxHeartbeats 4000000 in
theorem e_X7_begin (M : pm_M) (x0 : Nat) (x1 : Int32) (x2 : Int32) : pm_C mX7_begin [.ref x0, .int x1, .int x2] M = (pm_oI (pm_C mX7_isShape [.int x1, .int x2] M)).bind fun q1 => 
    if q1.1 = 0 then (some (.long pm_BAD, q1.2))
    else (bif pm_kd q1.2 7 x0 then ((pm_oV (pm_C mX7_beginLaw [.ref x0, .int x1, .int x2] q1.2)).bind fun m2 => some (.long 0, m2)) else none) := (pm_xeqC mX7_begin c_X7_begin d_X7_begin rfl rfl 400 _ M).trans rfl
set_option maxRecDepth 100000 in
set_option maxHeartbeats 4000000 in
theorem e_X7_weigh (M : pm_M) (x0 : Nat) (x1 : Int32) (x2 : Int32) (x3 : Int32) : pm_C mX7_weigh [.ref x0, .int x1, .int x2, .int x3] M = (pm_gI M 7 3 x0).bind fun g1 => (pm_oI (pm_C mX7_isPair [.int x1, .int g1] M)).bind fun q2 => 
    if q2.1 = 0 then (some (.long pm_BAD, q2.2))
    else ((pm_gI q2.2 7 4 x0).bind fun g3 => (pm_oI (pm_C mX7_isPair [.int x2, .int g3] q2.2)).bind fun q4 => 
      if q4.1 = 0 then (some (.long pm_BAD, q4.2))
      else ((pm_oI (pm_C mX7_isIn [.long x3.toInt64, .long (-1000), .long 1000] q4.2)).bind fun q5 => 
        if q5.1 = 0 then (some (.long pm_BAD, q5.2))
        else ((pm_gR q5.2 7 5 x0).bind fun g6 => (pm_aI q5.2 g6 ((9 * x1) + x2)).bind fun g7 => (pm_gR q5.2 7 5 x0).bind fun g8 => (pm_sI q5.2 g8 ((9 * x1) + x2) x3).bind fun m9 => some (.long g7.toInt64, m9)))) := (pm_xeqC mX7_weigh c_X7_weigh d_X7_weigh rfl rfl 400 _ M).trans rfl
set_option maxRecDepth 100000 in
set_option maxHeartbeats 4000000 in
theorem e_X7_take (M : pm_M) (x0 : Nat) (x1 : Int32) : pm_C mX7_take [.ref x0, .int x1] M = (pm_oI (pm_C mX7_isIn [.long x1.toInt64, .long 0, .long 7] M)).bind fun q1 => 
    if q1.1 = 0 then (some (.long pm_BAD, q1.2))
    else (bif pm_kd q1.2 7 x0 then ((pm_oV (pm_C mX7_beginLaw [.ref x0, .int 2, .int 2] q1.2)).bind fun m2 => pm_res mX7_take 24 [(0, .ref x0), (1, .int x1), (2, .int 0)] [] m2) else none) := (pm_xeqC mX7_take c_X7_take d_X7_take rfl rfl 400 _ M).trans rfl
set_option maxRecDepth 100000 in
set_option maxHeartbeats 4000000 in
theorem e_X7_take_24 (M : pm_M) (x0 : Nat) (x1 : Int32) (x2 : Int32) : pm_res mX7_take 24 [(0, .ref x0), (1, .int x1), (2, .int x2)] [] M = 
    if 4 ≤ x2 then (some (.long 0, M))
    else (
      if x2 = (x1 / 2) then (pm_res mX7_take 41 [(0, .ref x0), (1, .int x1), (2, .int x2)] [.int (-1)] M)
      else (pm_res mX7_take 41 [(0, .ref x0), (1, .int x1), (2, .int x2)] [.int 1] M)) := (pm_xeq mX7_take c_X7_take d_X7_take rfl rfl 400 24 _ _ M).trans rfl
set_option maxRecDepth 100000 in
set_option maxHeartbeats 4000000 in
theorem e_X7_take_41 (M : pm_M) (x0 : Nat) (x1 : Int32) (x2 : Int32) (y0 : Int32) : pm_res mX7_take 41 [(0, .ref x0), (1, .int x1), (2, .int x2)] [.int y0] M = 
    if (pm_rem x1 2) = 1 then (pm_res mX7_take 58 [(0, .ref x0), (1, .int x1), (2, .int x2), (3, .int (y0 * (-1))), (4, .int 0)] [] M)
    else (pm_res mX7_take 58 [(0, .ref x0), (1, .int x1), (2, .int x2), (3, .int (y0 * 1)), (4, .int 0)] [] M) := (pm_xeq mX7_take c_X7_take d_X7_take rfl rfl 400 41 _ _ M).trans rfl
set_option maxRecDepth 100000 in
set_option maxHeartbeats 4000000 in
theorem e_X7_take_58 (M : pm_M) (x0 : Nat) (x1 : Int32) (x2 : Int32) (x3 : Int32) (x4 : Int32) : pm_res mX7_take 58 [(0, .ref x0), (1, .int x1), (2, .int x2), (3, .int x3), (4, .int x4)] [] M = 
    if 4 ≤ x4 then (pm_res mX7_take 24 [(0, .ref x0), (1, .int x1), (2, .int (x2 + 1))] [] M)
    else ((pm_gR M 7 5 x0).bind fun g1 => (pm_oI (pm_C mX7_place [.int (x2 / 2), .int (pm_rem x2 2), .int (x4 / 2), .int (pm_rem x4 2)] M)).bind fun q2 => 
      if x4 = 0 then ((pm_sI q2.2 g1 q2.1 x3).bind fun m3 => pm_res mX7_take 58 [(0, .ref x0), (1, .int x1), (2, .int x2), (3, .int x3), (4, .int (x4 + 1))] [] m3)
      else (
        if x4 = 3 then ((pm_sI q2.2 g1 q2.1 x3).bind fun m4 => pm_res mX7_take 58 [(0, .ref x0), (1, .int x1), (2, .int x2), (3, .int x3), (4, .int (x4 + 1))] [] m4)
        else ((pm_sI q2.2 g1 q2.1 (-x3)).bind fun m5 => pm_res mX7_take 58 [(0, .ref x0), (1, .int x1), (2, .int x2), (3, .int x3), (4, .int (x4 + 1))] [] m5))) := (pm_xeq mX7_take c_X7_take d_X7_take rfl rfl 400 58 _ _ M).trans rfl
set_option maxRecDepth 100000 in
set_option maxHeartbeats 4000000 in
theorem e_X7_weight (M : pm_M) (x0 : Nat) (x1 : Int32) (x2 : Int32) (x3 : Int32) (x4 : Int32) : pm_C mX7_weight [.ref x0, .int x1, .int x2, .int x3, .int x4] M = (pm_gR M 7 5 x0).bind fun g1 => (pm_oI (pm_C mX7_place [.int x1, .int x2, .int x3, .int x4] M)).bind fun q2 => (pm_aI q2.2 g1 q2.1).bind fun g3 => some (.int g3, q2.2) := (pm_xeqC mX7_weight c_X7_weight d_X7_weight rfl rfl 400 _ M).trans rfl
set_option maxRecDepth 100000 in
set_option maxHeartbeats 4000000 in
theorem e_X7_fits (M : pm_M) (x0 : Nat) (x1 : Int32) : pm_C mX7_fits [.ref x0, .int x1] M = bif pm_kd M 7 x0 then ((pm_oI (pm_C mX7_isMissing [.ref x0, .int x1] M)).bind fun q1 => 
    if q1.1 = 0 then (bif pm_kd q1.2 7 x0 then ((pm_oI (pm_C mX7_q [.ref x0, .int x1] q1.2)).bind fun q2 => (pm_gI q2.2 7 3 x0).bind fun g3 => 
      if q2.1 = g3 then (bif pm_kd q2.2 7 x0 then ((pm_oI (pm_C mX7_a [.ref x0, .int x1] q2.2)).bind fun q4 => (pm_gI q4.2 7 4 x0).bind fun g5 => 
        if q4.1 = g5 then (some (.int 1, q4.2))
        else (some (.int 0, q4.2))) else none)
      else (some (.int 0, q2.2))) else none)
    else (some (.int 0, q1.2))) else none := (pm_xeqC mX7_fits c_X7_fits d_X7_fits rfl rfl 400 _ M).trans rfl
set_option maxRecDepth 100000 in
set_option maxHeartbeats 4000000 in
theorem e_X7_valueOf (M : pm_M) (x0 : Nat) (x1 : Int32) : pm_C mX7_valueOf [.ref x0, .int x1] M = pm_res mX7_valueOf 5 [(0, .ref x0), (1, .int x1), (2, .long 0), (4, .int 0)] [] M := (pm_xeqC mX7_valueOf c_X7_valueOf d_X7_valueOf rfl rfl 400 _ M).trans rfl
set_option maxRecDepth 100000 in
set_option maxHeartbeats 4000000 in
theorem e_X7_valueOf_5 (M : pm_M) (x0 : Nat) (x1 : Int32) (x2 : Int64) (x4 : Int32) : pm_res mX7_valueOf 5 [(0, .ref x0), (1, .int x1), (2, .long x2), (4, .int x4)] [] M = 
    if 81 ≤ x4 then (some (.long x2, M))
    else ((pm_gR M 7 5 x0).bind fun g1 => (pm_aI M g1 x4).bind fun g2 => (pm_gR M 7 0 x0).bind fun g3 => (pm_aI M g3 (((84 * x1) + 3) + x4)).bind fun g4 => pm_res mX7_valueOf 5 [(0, .ref x0), (1, .int x1), (2, .long (x2 + (g2.toInt64 * g4.toInt64))), (4, .int (x4 + 1))] [] M) := (pm_xeq mX7_valueOf c_X7_valueOf d_X7_valueOf rfl rfl 400 5 _ _ M).trans rfl
set_option maxRecDepth 100000 in
set_option maxHeartbeats 4000000 in
theorem e_X7_value (M : pm_M) (x0 : Nat) (x1 : Int32) (x2 : Int32) : pm_C mX7_value [.ref x0, .int x1, .int x2] M = (pm_oI (pm_C mX7_isTable [.int x1] M)).bind fun q1 => 
    if q1.1 = 0 then (some (.long pm_BAD, q1.2))
    else ((pm_oI (pm_C mX7_isIn [.long x2.toInt64, .long 0, .long 1] q1.2)).bind fun q2 => 
      if q2.1 = 0 then (some (.long pm_BAD, q2.2))
      else (bif pm_kd q2.2 7 x0 then ((pm_oI (pm_C mX7_fits [.ref x0, .int x1] q2.2)).bind fun q3 => 
        if q3.1 = 0 then (some (.long pm_NO, q3.2))
        else (bif pm_kd q3.2 7 x0 then ((pm_oL (pm_C mX7_valueOf [.ref x0, .int x1] q3.2)).bind fun q4 => bif pm_kd q4.2 7 x0 then ((pm_oI (pm_C mX7_whole [.ref x0, .int x1] q4.2)).bind fun q5 => (pm_oL (pm_C mX7_part [.long q4.1, .long (q5.1).toInt64, .int x2] q5.2)).bind fun q6 => some (.long q6.1, q6.2)) else none) else none)) else none)) := (pm_xeqC mX7_value c_X7_value d_X7_value rfl rfl 400 _ M).trans rfl
set_option maxRecDepth 100000 in
set_option maxHeartbeats 4000000 in
theorem e_X7_sures (M : pm_M) (x0 : Nat) : pm_C mX7_sures [.ref x0] M = (pm_gI M 7 4 x0).bind fun g1 => (pm_gI M 7 3 x0).bind fun g2 => (pm_oI (pm_C mX7_power [.int g1, .int (2 * g2)] M)).bind fun q3 => some (.int q3.1, q3.2) := (pm_xeqC mX7_sures c_X7_sures d_X7_sures rfl rfl 400 _ M).trans rfl
set_option maxRecDepth 100000 in
set_option maxHeartbeats 4000000 in
theorem e_X7_sureValue (M : pm_M) (x0 : Nat) (x1 : Int32) : pm_C mX7_sureValue [.ref x0, .int x1] M = pm_res mX7_sureValue 5 [(0, .ref x0), (1, .int x1), (2, .long 0), (4, .int 0)] [] M := (pm_xeqC mX7_sureValue c_X7_sureValue d_X7_sureValue rfl rfl 400 _ M).trans rfl
set_option maxRecDepth 100000 in
set_option maxHeartbeats 4000000 in
theorem e_X7_sureValue_5 (M : pm_M) (x0 : Nat) (x1 : Int32) (x2 : Int64) (x4 : Int32) : pm_res mX7_sureValue 5 [(0, .ref x0), (1, .int x1), (2, .long x2), (4, .int x4)] [] M = (pm_gI M 7 3 x0).bind fun g1 => 
    if g1 ≤ x4 then (some (.long x2, M))
    else (pm_res mX7_sureValue 17 [(0, .ref x0), (1, .int x1), (2, .long x2), (4, .int x4), (5, .int 0)] [] M) := (pm_xeq mX7_sureValue c_X7_sureValue d_X7_sureValue rfl rfl 400 5 _ _ M).trans rfl
set_option maxRecDepth 100000 in
set_option maxHeartbeats 4000000 in
theorem e_X7_sureValue_17 (M : pm_M) (x0 : Nat) (x1 : Int32) (x2 : Int64) (x4 : Int32) (x5 : Int32) : pm_res mX7_sureValue 17 [(0, .ref x0), (1, .int x1), (2, .long x2), (4, .int x4), (5, .int x5)] [] M = (pm_gI M 7 3 x0).bind fun g1 => 
    if g1 ≤ x5 then (pm_res mX7_sureValue 5 [(0, .ref x0), (1, .int x1), (2, .long x2), (4, .int (x4 + 1))] [] M)
    else ((pm_gI M 7 3 x0).bind fun g2 => (pm_gI M 7 4 x0).bind fun g3 => (pm_oI (pm_C mX7_answer [.int g2, .int g3, .int x1, .int 0, .int x4] M)).bind fun q4 => (pm_gI q4.2 7 3 x0).bind fun g5 => (pm_gI q4.2 7 4 x0).bind fun g6 => (pm_oI (pm_C mX7_answer [.int g5, .int g6, .int x1, .int 1, .int x5] q4.2)).bind fun q7 => bif pm_kd q7.2 7 x0 then ((pm_oI (pm_C mX7_weight [.ref x0, .int x4, .int x5, .int q4.1, .int q7.1] q7.2)).bind fun q8 => pm_res mX7_sureValue 17 [(0, .ref x0), (1, .int x1), (2, .long (x2 + (q8.1).toInt64)), (4, .int x4), (5, .int (x5 + 1))] [] q8.2) else none) := (pm_xeq mX7_sureValue c_X7_sureValue d_X7_sureValue rfl rfl 400 17 _ _ M).trans rfl
set_option maxRecDepth 100000 in
set_option maxHeartbeats 4000000 in
theorem e_X7_bound (M : pm_M) (x0 : Nat) (x1 : Int32) : pm_C mX7_bound [.ref x0, .int x1] M = (pm_oI (pm_C mX7_isIn [.long x1.toInt64, .long 0, .long 3] M)).bind fun q1 => 
    if q1.1 = 0 then (some (.long pm_BAD, q1.2))
    else (bif pm_kd q1.2 7 x0 then ((pm_oL (pm_C mX7_sureValue [.ref x0, .int 0] q1.2)).bind fun q2 => pm_res mX7_bound 34 [(0, .ref x0), (1, .int x1), (2, .long q2.1), (4, .long q2.1), (6, .int 0), (7, .int 0), (8, .int 0)] [] q2.2) else none) := (pm_xeqC mX7_bound c_X7_bound d_X7_bound rfl rfl 400 _ M).trans rfl
set_option maxRecDepth 100000 in
set_option maxHeartbeats 4000000 in
theorem e_X7_bound_34 (M : pm_M) (x0 : Nat) (x1 : Int32) (x2 : Int64) (x4 : Int64) (x6 : Int32) (x7 : Int32) (x8 : Int32) : pm_res mX7_bound 34 [(0, .ref x0), (1, .int x1), (2, .long x2), (4, .long x4), (6, .int x6), (7, .int x7), (8, .int x8)] [] M = bif pm_kd M 7 x0 then ((pm_oI (pm_C mX7_sures [.ref x0] M)).bind fun q1 => 
    if q1.1 ≤ x8 then (
      if x1 = 0 then (some (.long x2, q1.2))
      else (
        if x1 = 1 then (some (.long x6.toInt64, q1.2))
        else (
          if x1 = 2 then (some (.long x7.toInt64, q1.2))
          else (some (.long x4, q1.2)))))
    else (bif pm_kd q1.2 7 x0 then ((pm_oL (pm_C mX7_sureValue [.ref x0, .int x8] q1.2)).bind fun q2 => 
      if 0 ≤ (lg_cmp q2.1 x4) then (pm_res mX7_bound 66 [(0, .ref x0), (1, .int x1), (2, .long x2), (6, .int x6), (7, .int x7), (8, .int x8), (9, .long q2.1)] [.long x4] q2.2)
      else (pm_res mX7_bound 66 [(0, .ref x0), (1, .int x1), (2, .long x2), (6, .int x6), (7, .int x7), (8, .int x8), (9, .long q2.1)] [.long q2.1] q2.2)) else none)) else none := (pm_xeq mX7_bound c_X7_bound d_X7_bound rfl rfl 400 34 _ _ M).trans rfl
set_option maxRecDepth 100000 in
set_option maxHeartbeats 4000000 in
theorem e_X7_bound_66 (M : pm_M) (x0 : Nat) (x1 : Int32) (x2 : Int64) (x6 : Int32) (x7 : Int32) (x8 : Int32) (x9 : Int64) (y0 : Int64) : pm_res mX7_bound 66 [(0, .ref x0), (1, .int x1), (2, .long x2), (6, .int x6), (7, .int x7), (8, .int x8), (9, .long x9)] [.long y0] M = 
    if (lg_cmp x9 x2) ≤ 0 then (pm_res mX7_bound 85 [(0, .ref x0), (1, .int x1), (2, .long x2), (4, .long y0), (6, .int x6), (7, .int x7), (8, .int x8), (9, .long x9)] [] M)
    else (pm_res mX7_bound 85 [(0, .ref x0), (1, .int x1), (2, .long x9), (4, .long y0), (6, .int x8), (7, .int 0), (8, .int x8), (9, .long x9)] [] M) := (pm_xeq mX7_bound c_X7_bound d_X7_bound rfl rfl 400 66 _ _ M).trans rfl
set_option maxRecDepth 100000 in
set_option maxHeartbeats 4000000 in
theorem e_X7_bound_85 (M : pm_M) (x0 : Nat) (x1 : Int32) (x2 : Int64) (x4 : Int64) (x6 : Int32) (x7 : Int32) (x8 : Int32) (x9 : Int64) : pm_res mX7_bound 85 [(0, .ref x0), (1, .int x1), (2, .long x2), (4, .long x4), (6, .int x6), (7, .int x7), (8, .int x8), (9, .long x9)] [] M = 
    if (lg_cmp x9 x2) = 0 then (pm_res mX7_bound 34 [(0, .ref x0), (1, .int x1), (2, .long x2), (4, .long x4), (6, .int x6), (7, .int (x7 + 1)), (8, .int (x8 + 1))] [] M)
    else (pm_res mX7_bound 34 [(0, .ref x0), (1, .int x1), (2, .long x2), (4, .long x4), (6, .int x6), (7, .int (x7 + 0)), (8, .int (x8 + 1))] [] M) := (pm_xeq mX7_bound c_X7_bound d_X7_bound rfl rfl 400 85 _ _ M).trans rfl
set_option maxRecDepth 100000 in
set_option maxHeartbeats 4000000 in
theorem e_X7_breaks (M : pm_M) (x0 : Nat) (x1 : Int32) : pm_C mX7_breaks [.ref x0, .int x1] M = (pm_oI (pm_C mX7_isTable [.int x1] M)).bind fun q1 => 
    if q1.1 = 0 then (some (.long pm_BAD, q1.2))
    else (bif pm_kd q1.2 7 x0 then ((pm_oI (pm_C mX7_fits [.ref x0, .int x1] q1.2)).bind fun q2 => 
      if q2.1 = 0 then (some (.long pm_NO, q2.2))
      else (bif pm_kd q2.2 7 x0 then ((pm_oL (pm_C mX7_valueOf [.ref x0, .int x1] q2.2)).bind fun q3 => bif pm_kd q3.2 7 x0 then ((pm_oL (pm_C mX7_bound [.ref x0, .int 0] q3.2)).bind fun q4 => bif pm_kd q4.2 7 x0 then ((pm_oI (pm_C mX7_whole [.ref x0, .int x1] q4.2)).bind fun q5 => 
        if (lg_cmp q3.1 (q4.1 * (q5.1).toInt64)) ≤ 0 then (some (.long 0, q5.2))
        else (some (.long 1, q5.2))) else none) else none) else none)) else none) := (pm_xeqC mX7_breaks c_X7_breaks d_X7_breaks rfl rfl 400 _ M).trans rfl
set_option maxRecDepth 100000 in
set_option maxHeartbeats 4000000 in
theorem e_X7_cornerValue (M : pm_M) (x0 : Nat) (x1 : Int32) : pm_C mX7_cornerValue [.ref x0, .int x1] M = 
    if 16 ≤ x1 then (pm_res mX7_cornerValue 21 [(0, .ref x0), (1, .int x1), (2, .long 0), (4, .int 0)] [] M)
    else (bif pm_kd M 7 x0 then ((pm_oL (pm_C mX7_sureValue [.ref x0, .int x1] M)).bind fun q1 => some (.long (2 * q1.1), q1.2)) else none) := (pm_xeqC mX7_cornerValue c_X7_cornerValue d_X7_cornerValue rfl rfl 400 _ M).trans rfl
set_option maxRecDepth 100000 in
set_option maxHeartbeats 4000000 in
theorem e_X7_cornerValue_21 (M : pm_M) (x0 : Nat) (x1 : Int32) (x2 : Int64) (x4 : Int32) : pm_res mX7_cornerValue 21 [(0, .ref x0), (1, .int x1), (2, .long x2), (4, .int x4)] [] M = 
    if 16 ≤ x4 then (some (.long x2, M))
    else ((pm_oI (pm_C mX7_hasCell [.int (x1 - 16), .int (x4 / 8), .int (pm_rem (x4 / 4) 2), .int (pm_rem (x4 / 2) 2), .int (pm_rem x4 2)] M)).bind fun q1 => 
      if q1.1 = 0 then (pm_res mX7_cornerValue 21 [(0, .ref x0), (1, .int x1), (2, .long (x2 + 0)), (4, .int (x4 + 1))] [] q1.2)
      else (bif pm_kd q1.2 7 x0 then ((pm_oI (pm_C mX7_weight [.ref x0, .int (x4 / 8), .int (pm_rem (x4 / 4) 2), .int (pm_rem (x4 / 2) 2), .int (pm_rem x4 2)] q1.2)).bind fun q2 => pm_res mX7_cornerValue 21 [(0, .ref x0), (1, .int x1), (2, .long (x2 + (q2.1).toInt64)), (4, .int (x4 + 1))] [] q2.2) else none)) := (pm_xeq mX7_cornerValue c_X7_cornerValue d_X7_cornerValue rfl rfl 400 21 _ _ M).trans rfl
set_option maxRecDepth 100000 in
set_option maxHeartbeats 4000000 in
theorem e_X7_bestCorner (M : pm_M) (x0 : Nat) : pm_C mX7_bestCorner [.ref x0] M = pm_res mX7_bestCorner 4 [(0, .ref x0), (1, .int 0), (2, .int 1)] [] M := (pm_xeqC mX7_bestCorner c_X7_bestCorner d_X7_bestCorner rfl rfl 400 _ M).trans rfl
set_option maxRecDepth 100000 in
set_option maxHeartbeats 4000000 in
theorem e_X7_bestCorner_4 (M : pm_M) (x0 : Nat) (x1 : Int32) (x2 : Int32) : pm_res mX7_bestCorner 4 [(0, .ref x0), (1, .int x1), (2, .int x2)] [] M = 
    if 24 ≤ x2 then (some (.int x1, M))
    else (bif pm_kd M 7 x0 then ((pm_oL (pm_C mX7_cornerValue [.ref x0, .int x2] M)).bind fun q1 => bif pm_kd q1.2 7 x0 then ((pm_oL (pm_C mX7_cornerValue [.ref x0, .int x1] q1.2)).bind fun q2 => 
      if (lg_cmp q1.1 q2.1) ≤ 0 then (pm_res mX7_bestCorner 4 [(0, .ref x0), (1, .int x1), (2, .int (x2 + 1))] [] q2.2)
      else (pm_res mX7_bestCorner 4 [(0, .ref x0), (1, .int x2), (2, .int (x2 + 1))] [] q2.2)) else none) else none) := (pm_xeq mX7_bestCorner c_X7_bestCorner d_X7_bestCorner rfl rfl 400 4 _ _ M).trans rfl
set_option maxRecDepth 100000 in
set_option maxHeartbeats 4000000 in
theorem e_X7_bestFor (M : pm_M) (x0 : Nat) (x1 : Int32) (x2 : Int32) (x3 : Int32) (x4 : Int32) : pm_C mX7_bestFor [.ref x0, .int x1, .int x2, .int x3, .int x4] M = pm_res mX7_bestFor 6 [(0, .ref x0), (1, .int x1), (2, .int x2), (3, .int x3), (4, .int x4), (5, .long 0), (7, .int 0)] [] M := (pm_xeqC mX7_bestFor c_X7_bestFor d_X7_bestFor rfl rfl 400 _ M).trans rfl
set_option maxRecDepth 100000 in
set_option maxHeartbeats 4000000 in
theorem e_X7_bestFor_6 (M : pm_M) (x0 : Nat) (x1 : Int32) (x2 : Int32) (x3 : Int32) (x4 : Int32) (x5 : Int64) (x7 : Int32) : pm_res mX7_bestFor 6 [(0, .ref x0), (1, .int x1), (2, .int x2), (3, .int x3), (4, .int x4), (5, .long x5), (7, .int x7)] [] M = (pm_gI M 7 4 x0).bind fun g1 => 
    if g1 ≤ x7 then (some (.long x5, M))
    else (pm_res mX7_bestFor 21 [(0, .ref x0), (1, .int x1), (2, .int x2), (3, .int x3), (4, .int x4), (5, .long x5), (7, .int x7), (8, .long 0), (10, .int 0)] [] M) := (pm_xeq mX7_bestFor c_X7_bestFor d_X7_bestFor rfl rfl 400 6 _ _ M).trans rfl
set_option maxRecDepth 100000 in
set_option maxHeartbeats 4000000 in
theorem e_X7_bestFor_21 (M : pm_M) (x0 : Nat) (x1 : Int32) (x2 : Int32) (x3 : Int32) (x4 : Int32) (x5 : Int64) (x7 : Int32) (x8 : Int64) (x10 : Int32) : pm_res mX7_bestFor 21 [(0, .ref x0), (1, .int x1), (2, .int x2), (3, .int x3), (4, .int x4), (5, .long x5), (7, .int x7), (8, .long x8), (10, .int x10)] [] M = (pm_gI M 7 3 x0).bind fun g1 => 
    if g1 ≤ x10 then (
      if x7 = 0 then (pm_res mX7_bestFor 6 [(0, .ref x0), (1, .int x1), (2, .int x2), (3, .int x3), (4, .int x4), (5, .long x8), (7, .int (x7 + 1))] [] M)
      else (
        if (lg_cmp x8 x5) ≤ 0 then (pm_res mX7_bestFor 6 [(0, .ref x0), (1, .int x1), (2, .int x2), (3, .int x3), (4, .int x4), (5, .long x5), (7, .int (x7 + 1))] [] M)
        else (pm_res mX7_bestFor 6 [(0, .ref x0), (1, .int x1), (2, .int x2), (3, .int x3), (4, .int x4), (5, .long x8), (7, .int (x7 + 1))] [] M)))
    else (
      if ((x2 >>> (x10 &&& 31)) &&& 1) = x4 then ((pm_gI M 7 4 x0).bind fun g2 => (pm_oI (pm_C mX7_digit [.int x1, .int g2, .int x10] M)).bind fun q3 => bif pm_kd q3.2 7 x0 then ((pm_oI (pm_C mX7_weight [.ref x0, .int x10, .int x3, .int q3.1, .int x7] q3.2)).bind fun q4 => pm_res mX7_bestFor 21 [(0, .ref x0), (1, .int x1), (2, .int x2), (3, .int x3), (4, .int x4), (5, .long x5), (7, .int x7), (8, .long (x8 + (q4.1).toInt64)), (10, .int (x10 + 1))] [] q4.2) else none)
      else (pm_res mX7_bestFor 21 [(0, .ref x0), (1, .int x1), (2, .int x2), (3, .int x3), (4, .int x4), (5, .long x5), (7, .int x7), (8, .long (x8 + 0)), (10, .int (x10 + 1))] [] M)) := (pm_xeq mX7_bestFor c_X7_bestFor d_X7_bestFor rfl rfl 400 21 _ _ M).trans rfl
set_option maxRecDepth 100000 in
set_option maxHeartbeats 4000000 in
theorem e_X7_bestTold (M : pm_M) (x0 : Nat) : pm_C mX7_bestTold [.ref x0] M = pm_res mX7_bestTold 7 [(0, .ref x0), (1, .long 0), (3, .int 0), (4, .int 0)] [] M := (pm_xeqC mX7_bestTold c_X7_bestTold d_X7_bestTold rfl rfl 400 _ M).trans rfl
set_option maxRecDepth 100000 in
set_option maxHeartbeats 4000000 in
theorem e_X7_bestTold_7 (M : pm_M) (x0 : Nat) (x1 : Int64) (x3 : Int32) (x4 : Int32) : pm_res mX7_bestTold 7 [(0, .ref x0), (1, .long x1), (3, .int x3), (4, .int x4)] [] M = (pm_gI M 7 4 x0).bind fun g1 => (pm_gI M 7 3 x0).bind fun g2 => (pm_oI (pm_C mX7_power [.int g1, .int g2] M)).bind fun q3 => 
    if q3.1 ≤ x4 then (some (.long x1, q3.2))
    else (pm_res mX7_bestTold 26 [(0, .ref x0), (1, .long x1), (3, .int x3), (4, .int x4), (5, .int 0)] [] q3.2) := (pm_xeq mX7_bestTold c_X7_bestTold d_X7_bestTold rfl rfl 400 7 _ _ M).trans rfl
set_option maxRecDepth 100000 in
set_option maxHeartbeats 4000000 in
theorem e_X7_bestTold_26 (M : pm_M) (x0 : Nat) (x1 : Int64) (x3 : Int32) (x4 : Int32) (x5 : Int32) : pm_res mX7_bestTold 26 [(0, .ref x0), (1, .long x1), (3, .int x3), (4, .int x4), (5, .int x5)] [] M = (pm_gI M 7 3 x0).bind fun g1 => 
    if ((1 : Int32) <<< (g1 &&& 31)) ≤ x5 then (pm_res mX7_bestTold 7 [(0, .ref x0), (1, .long x1), (3, .int x3), (4, .int (x4 + 1))] [] M)
    else (pm_res mX7_bestTold 43 [(0, .ref x0), (1, .long x1), (3, .int x3), (4, .int x4), (5, .int x5), (6, .long 0), (8, .int 0)] [] M) := (pm_xeq mX7_bestTold c_X7_bestTold d_X7_bestTold rfl rfl 400 26 _ _ M).trans rfl
set_option maxRecDepth 100000 in
set_option maxHeartbeats 4000000 in
theorem e_X7_bestTold_43 (M : pm_M) (x0 : Nat) (x1 : Int64) (x3 : Int32) (x4 : Int32) (x5 : Int32) (x6 : Int64) (x8 : Int32) : pm_res mX7_bestTold 43 [(0, .ref x0), (1, .long x1), (3, .int x3), (4, .int x4), (5, .int x5), (6, .long x6), (8, .int x8)] [] M = (pm_gI M 7 3 x0).bind fun g1 => 
    if g1 ≤ x8 then (
      if x3 = 0 then (pm_res mX7_bestTold 97 [(0, .ref x0), (4, .int x4), (5, .int x5), (6, .long x6)] [] M)
      else (
        if (lg_cmp x6 x1) ≤ 0 then (pm_res mX7_bestTold 26 [(0, .ref x0), (1, .long x1), (3, .int 1), (4, .int x4), (5, .int (x5 + 1))] [] M)
        else (pm_res mX7_bestTold 97 [(0, .ref x0), (4, .int x4), (5, .int x5), (6, .long x6)] [] M)))
    else (bif pm_kd M 7 x0 then ((pm_oL (pm_C mX7_bestFor [.ref x0, .int x4, .int x5, .int x8, .int 0] M)).bind fun q2 => bif pm_kd q2.2 7 x0 then ((pm_oL (pm_C mX7_bestFor [.ref x0, .int x4, .int x5, .int x8, .int 1] q2.2)).bind fun q3 => pm_res mX7_bestTold 43 [(0, .ref x0), (1, .long x1), (3, .int x3), (4, .int x4), (5, .int x5), (6, .long (x6 + (q2.1 + q3.1))), (8, .int (x8 + 1))] [] q3.2) else none) else none) := (pm_xeq mX7_bestTold c_X7_bestTold d_X7_bestTold rfl rfl 400 43 _ _ M).trans rfl
set_option maxRecDepth 100000 in
set_option maxHeartbeats 4000000 in
theorem e_X7_bestTold_97 (M : pm_M) (x0 : Nat) (x4 : Int32) (x5 : Int32) (x6 : Int64) : pm_res mX7_bestTold 97 [(0, .ref x0), (4, .int x4), (5, .int x5), (6, .long x6)] [] M = pm_res mX7_bestTold 26 [(0, .ref x0), (1, .long x6), (3, .int 1), (4, .int x4), (5, .int (x5 + 1))] [] M := (pm_xeq mX7_bestTold c_X7_bestTold d_X7_bestTold rfl rfl 400 97 _ _ M).trans rfl
set_option maxRecDepth 100000 in
set_option maxHeartbeats 4000000 in
theorem e_X7_bestForTwo (M : pm_M) (x0 : Nat) (x1 : Int32) (x2 : Int32) : pm_C mX7_bestForTwo [.ref x0, .int x1, .int x2] M = pm_res mX7_bestForTwo 5 [(0, .ref x0), (1, .int x1), (2, .int x2), (3, .long 0), (5, .int 0)] [] M := (pm_xeqC mX7_bestForTwo c_X7_bestForTwo d_X7_bestForTwo rfl rfl 400 _ M).trans rfl
set_option maxRecDepth 100000 in
set_option maxHeartbeats 4000000 in
theorem e_X7_bestForTwo_5 (M : pm_M) (x0 : Nat) (x1 : Int32) (x2 : Int32) (x3 : Int64) (x5 : Int32) : pm_res mX7_bestForTwo 5 [(0, .ref x0), (1, .int x1), (2, .int x2), (3, .long x3), (5, .int x5)] [] M = 
    if 4 ≤ x5 then (some (.long x3, M))
    else (pm_res mX7_bestForTwo 17 [(0, .ref x0), (1, .int x1), (2, .int x2), (3, .long x3), (5, .int x5), (6, .long 0), (8, .int 0)] [] M) := (pm_xeq mX7_bestForTwo c_X7_bestForTwo d_X7_bestForTwo rfl rfl 400 5 _ _ M).trans rfl
set_option maxRecDepth 100000 in
set_option maxHeartbeats 4000000 in
theorem e_X7_bestForTwo_17 (M : pm_M) (x0 : Nat) (x1 : Int32) (x2 : Int32) (x3 : Int64) (x5 : Int32) (x6 : Int64) (x8 : Int32) : pm_res mX7_bestForTwo 17 [(0, .ref x0), (1, .int x1), (2, .int x2), (3, .long x3), (5, .int x5), (6, .long x6), (8, .int x8)] [] M = 
    if 4 ≤ x8 then (
      if x5 = 0 then (pm_res mX7_bestForTwo 5 [(0, .ref x0), (1, .int x1), (2, .int x2), (3, .long x6), (5, .int (x5 + 1))] [] M)
      else (
        if (lg_cmp x6 x3) ≤ 0 then (pm_res mX7_bestForTwo 5 [(0, .ref x0), (1, .int x1), (2, .int x2), (3, .long x3), (5, .int (x5 + 1))] [] M)
        else (pm_res mX7_bestForTwo 5 [(0, .ref x0), (1, .int x1), (2, .int x2), (3, .long x6), (5, .int (x5 + 1))] [] M)))
    else (bif pm_kd M 7 x0 then ((pm_oI (pm_C mX7_weight [.ref x0, .int (x8 / 2), .int (x2 / 2), .int (((x1 >>> ((2 * x8) &&& 31)) &&& 3) / 2), .int (x5 / 2)] M)).bind fun q1 => bif pm_kd q1.2 7 x0 then ((pm_oI (pm_C mX7_weight [.ref x0, .int (pm_rem x8 2), .int (pm_rem x2 2), .int (pm_rem ((x1 >>> ((2 * x8) &&& 31)) &&& 3) 2), .int (pm_rem x5 2)] q1.2)).bind fun q2 => pm_res mX7_bestForTwo 17 [(0, .ref x0), (1, .int x1), (2, .int x2), (3, .long x3), (5, .int x5), (6, .long (x6 + ((q1.1).toInt64 * (q2.1).toInt64))), (8, .int (x8 + 1))] [] q2.2) else none) else none) := (pm_xeq mX7_bestForTwo c_X7_bestForTwo d_X7_bestForTwo rfl rfl 400 17 _ _ M).trans rfl
set_option maxRecDepth 100000 in
set_option maxHeartbeats 4000000 in
theorem e_X7_bestTwice (M : pm_M) (x0 : Nat) : pm_C mX7_bestTwice [.ref x0] M = pm_res mX7_bestTwice 4 [(0, .ref x0), (1, .long 0), (3, .int 0)] [] M := (pm_xeqC mX7_bestTwice c_X7_bestTwice d_X7_bestTwice rfl rfl 400 _ M).trans rfl
set_option maxRecDepth 100000 in
set_option maxHeartbeats 4000000 in
theorem e_X7_bestTwice_4 (M : pm_M) (x0 : Nat) (x1 : Int64) (x3 : Int32) : pm_res mX7_bestTwice 4 [(0, .ref x0), (1, .long x1), (3, .int x3)] [] M = 
    if 256 ≤ x3 then (some (.long x1, M))
    else (pm_res mX7_bestTwice 17 [(0, .ref x0), (1, .long x1), (3, .int x3), (4, .long 0), (6, .int 0)] [] M) := (pm_xeq mX7_bestTwice c_X7_bestTwice d_X7_bestTwice rfl rfl 400 4 _ _ M).trans rfl
set_option maxRecDepth 100000 in
set_option maxHeartbeats 4000000 in
theorem e_X7_bestTwice_17 (M : pm_M) (x0 : Nat) (x1 : Int64) (x3 : Int32) (x4 : Int64) (x6 : Int32) : pm_res mX7_bestTwice 17 [(0, .ref x0), (1, .long x1), (3, .int x3), (4, .long x4), (6, .int x6)] [] M = 
    if 4 ≤ x6 then (
      if (lg_cmp x4 x1) ≤ 0 then (pm_res mX7_bestTwice 4 [(0, .ref x0), (1, .long x1), (3, .int (x3 + 1))] [] M)
      else (pm_res mX7_bestTwice 4 [(0, .ref x0), (1, .long x4), (3, .int (x3 + 1))] [] M))
    else (bif pm_kd M 7 x0 then ((pm_oL (pm_C mX7_bestForTwo [.ref x0, .int x3, .int x6] M)).bind fun q1 => pm_res mX7_bestTwice 17 [(0, .ref x0), (1, .long x1), (3, .int x3), (4, .long (x4 + q1.1)), (6, .int (x6 + 1))] [] q1.2) else none) := (pm_xeq mX7_bestTwice c_X7_bestTwice d_X7_bestTwice rfl rfl 400 17 _ _ M).trans rfl
set_option maxRecDepth 100000 in
set_option maxHeartbeats 4000000 in
theorem e_X7_arePoints (M : pm_M) (x0 : Nat) : pm_C mX7_arePoints [.ref x0] M = pm_res mX7_arePoints 4 [(0, .ref x0), (1, .int 1), (2, .int 0)] [] M := (pm_xeqC mX7_arePoints c_X7_arePoints d_X7_arePoints rfl rfl 400 _ M).trans rfl
set_option maxRecDepth 100000 in
set_option maxHeartbeats 4000000 in
theorem e_X7_arePoints_4 (M : pm_M) (x0 : Nat) (x1 : Int32) (x2 : Int32) : pm_res mX7_arePoints 4 [(0, .ref x0), (1, .int x1), (2, .int x2)] [] M = 
    if 81 ≤ x2 then (if x1 = 0 ∨ x1 = 1 then some (.int x1, M) else none)
    else (
      if x1 = 0 then (pm_res mX7_arePoints 4 [(0, .ref x0), (1, .int 0), (2, .int (x2 + 1))] [] M)
      else ((pm_gR M 7 5 x0).bind fun g1 => (pm_aI M g1 x2).bind fun g2 => (pm_oI (pm_C mX7_isIn [.long g2.toInt64, .long 0, .long 100] M)).bind fun q3 => 
        if q3.1 = 0 then (pm_res mX7_arePoints 4 [(0, .ref x0), (1, .int 0), (2, .int (x2 + 1))] [] q3.2)
        else (pm_res mX7_arePoints 4 [(0, .ref x0), (1, .int 1), (2, .int (x2 + 1))] [] q3.2))) := (pm_xeq mX7_arePoints c_X7_arePoints d_X7_arePoints rfl rfl 400 4 _ _ M).trans rfl
set_option maxRecDepth 100000 in
set_option maxHeartbeats 4000000 in
theorem e_X7_best (M : pm_M) (x0 : Nat) (x1 : Int32) : pm_C mX7_best [.ref x0, .int x1] M = (pm_oI (pm_C mX7_isIn [.long x1.toInt64, .long 0, .long 3] M)).bind fun q1 => 
    if q1.1 = 0 then (some (.long pm_BAD, q1.2))
    else (
      if x1 = 2 then (bif pm_kd q1.2 7 x0 then ((pm_oL (pm_C mX7_bestTold [.ref x0] q1.2)).bind fun q2 => some (.long q2.1, q2.2)) else none)
      else ((pm_gI q1.2 7 3 x0).bind fun g3 => 
        if g3 = 2 then ((pm_gI q1.2 7 4 x0).bind fun g4 => 
          if g4 = 2 then (
            if x1 = 3 then (bif pm_kd q1.2 7 x0 then ((pm_oI (pm_C mX7_arePoints [.ref x0] q1.2)).bind fun q5 => 
              if q5.1 = 0 then (some (.long pm_NO, q5.2))
              else (pm_res mX7_best 58 [(0, .ref x0), (1, .int x1)] [] q5.2)) else none)
            else (pm_res mX7_best 58 [(0, .ref x0), (1, .int x1)] [] q1.2))
          else (some (.long pm_NO, q1.2)))
        else (some (.long pm_NO, q1.2)))) := (pm_xeqC mX7_best c_X7_best d_X7_best rfl rfl 400 _ M).trans rfl
set_option maxRecDepth 100000 in
set_option maxHeartbeats 4000000 in
theorem e_X7_best_58 (M : pm_M) (x0 : Nat) (x1 : Int32) : pm_res mX7_best 58 [(0, .ref x0), (1, .int x1)] [] M = 
    if x1 = 0 then (bif pm_kd M 7 x0 then ((pm_oI (pm_C mX7_bestCorner [.ref x0] M)).bind fun q1 => bif pm_kd q1.2 7 x0 then ((pm_oL (pm_C mX7_cornerValue [.ref x0, .int q1.1] q1.2)).bind fun q2 => some (.long q2.1, q2.2)) else none) else none)
    else (
      if x1 = 1 then (bif pm_kd M 7 x0 then ((pm_oI (pm_C mX7_bestCorner [.ref x0] M)).bind fun q3 => some (.long (q3.1).toInt64, q3.2)) else none)
      else (bif pm_kd M 7 x0 then ((pm_oL (pm_C mX7_bestTwice [.ref x0] M)).bind fun q4 => some (.long q4.1, q4.2)) else none)) := (pm_xeq mX7_best c_X7_best d_X7_best rfl rfl 400 58 _ _ M).trans rfl
set_option maxRecDepth 100000 in
set_option maxHeartbeats 4000000 in
theorem e_X7_manyShares (M : pm_M) (x0 : Nat) : pm_C mX7_manyShares [.ref x0] M = pm_res mX7_manyShares 4 [(0, .ref x0), (1, .int 0), (2, .int 0)] [] M := (pm_xeqC mX7_manyShares c_X7_manyShares d_X7_manyShares rfl rfl 400 _ M).trans rfl
set_option maxRecDepth 100000 in
set_option maxHeartbeats 4000000 in
theorem e_X7_manyShares_4 (M : pm_M) (x0 : Nat) (x1 : Int32) (x2 : Int32) : pm_res mX7_manyShares 4 [(0, .ref x0), (1, .int x1), (2, .int x2)] [] M = 
    if 729 ≤ x2 then (some (.int x1, M))
    else ((pm_gR M 7 6 x0).bind fun g1 => (pm_aI M g1 x2).bind fun g2 => 
      if g2 = 0 then (pm_res mX7_manyShares 4 [(0, .ref x0), (1, .int (x1 + 0)), (2, .int (x2 + 1))] [] M)
      else (pm_res mX7_manyShares 4 [(0, .ref x0), (1, .int (x1 + 1)), (2, .int (x2 + 1))] [] M)) := (pm_xeq mX7_manyShares c_X7_manyShares d_X7_manyShares rfl rfl 400 4 _ _ M).trans rfl
set_option maxRecDepth 100000 in
set_option maxHeartbeats 4000000 in
theorem e_X7_allShares (M : pm_M) (x0 : Nat) : pm_C mX7_allShares [.ref x0] M = pm_res mX7_allShares 4 [(0, .ref x0), (1, .long 0), (3, .int 0)] [] M := (pm_xeqC mX7_allShares c_X7_allShares d_X7_allShares rfl rfl 400 _ M).trans rfl
set_option maxRecDepth 100000 in
set_option maxHeartbeats 4000000 in
theorem e_X7_allShares_4 (M : pm_M) (x0 : Nat) (x1 : Int64) (x3 : Int32) : pm_res mX7_allShares 4 [(0, .ref x0), (1, .long x1), (3, .int x3)] [] M = 
    if 729 ≤ x3 then (some (.long x1, M))
    else ((pm_gR M 7 6 x0).bind fun g1 => (pm_aI M g1 x3).bind fun g2 => pm_res mX7_allShares 4 [(0, .ref x0), (1, .long (x1 + g2.toInt64)), (3, .int (x3 + 1))] [] M) := (pm_xeq mX7_allShares c_X7_allShares d_X7_allShares rfl rfl 400 4 _ _ M).trans rfl
set_option maxRecDepth 100000 in
set_option maxHeartbeats 4000000 in
theorem e_X7_share (M : pm_M) (x0 : Nat) (x1 : Int32) (x2 : Int32) : pm_C mX7_share [.ref x0, .int x1, .int x2] M = bif pm_kd M 7 x0 then ((pm_oI (pm_C mX7_sures [.ref x0] M)).bind fun q1 => (pm_oI (pm_C mX7_isIn [.long x1.toInt64, .long 0, .long ((q1.1 - 1)).toInt64] q1.2)).bind fun q2 => 
    if q2.1 = 0 then (some (.long pm_BAD, q2.2))
    else ((pm_oI (pm_C mX7_isIn [.long x2.toInt64, .long 0, .long 1000000] q2.2)).bind fun q3 => 
      if q3.1 = 0 then (some (.long pm_BAD, q3.2))
      else (
        if x2 = 0 then (pm_res mX7_share 64 [(0, .ref x0), (1, .int x1), (2, .int x2)] [] q3.2)
        else (bif pm_kd q3.2 7 x0 then ((pm_oI (pm_C mX7_manyShares [.ref x0] q3.2)).bind fun q4 => (pm_gR q4.2 7 6 x0).bind fun g5 => (pm_aI q4.2 g5 x1).bind fun g6 => 
          if g6 = 0 then (
            if (q4.1 - 0) = 30 then (some (.long pm_FULL, q4.2))
            else (pm_res mX7_share 64 [(0, .ref x0), (1, .int x1), (2, .int x2)] [] q4.2))
          else (
            if (q4.1 - 1) = 30 then (some (.long pm_FULL, q4.2))
            else (pm_res mX7_share 64 [(0, .ref x0), (1, .int x1), (2, .int x2)] [] q4.2))) else none)))) else none := (pm_xeqC mX7_share c_X7_share d_X7_share rfl rfl 400 _ M).trans rfl
set_option maxRecDepth 100000 in
set_option maxHeartbeats 4000000 in
theorem e_X7_share_64 (M : pm_M) (x0 : Nat) (x1 : Int32) (x2 : Int32) : pm_res mX7_share 64 [(0, .ref x0), (1, .int x1), (2, .int x2)] [] M = (pm_gR M 7 6 x0).bind fun g1 => (pm_aI M g1 x1).bind fun g2 => (pm_gR M 7 6 x0).bind fun g3 => (pm_sI M g3 x1 x2).bind fun m4 => some (.long g2.toInt64, m4) := (pm_xeq mX7_share c_X7_share d_X7_share rfl rfl 400 64 _ _ M).trans rfl
set_option maxRecDepth 100000 in
set_option maxHeartbeats 4000000 in
theorem e_X7_beginMade (M : pm_M) (x0 : Nat) : pm_C mX7_beginMade [.ref x0] M = pm_res mX7_beginMade 2 [(0, .ref x0), (1, .int 0)] [] M := (pm_xeqC mX7_beginMade c_X7_beginMade d_X7_beginMade rfl rfl 400 _ M).trans rfl
set_option maxRecDepth 100000 in
set_option maxHeartbeats 4000000 in
theorem e_X7_beginMade_2 (M : pm_M) (x0 : Nat) (x1 : Int32) : pm_res mX7_beginMade 2 [(0, .ref x0), (1, .int x1)] [] M = 
    if 81 ≤ x1 then (some (.null, M))
    else ((pm_gR M 7 7 x0).bind fun g1 => (pm_sL M g1 x1 0).bind fun m2 => pm_res mX7_beginMade 2 [(0, .ref x0), (1, .int (x1 + 1))] [] m2) := (pm_xeq mX7_beginMade c_X7_beginMade d_X7_beginMade rfl rfl 400 2 _ _ M).trans rfl
set_option maxRecDepth 100000 in
set_option maxHeartbeats 4000000 in
theorem e_X7_mix (M : pm_M) (x0 : Nat) : pm_C mX7_mix [.ref x0] M = bif pm_kd M 7 x0 then ((pm_oV (pm_C mX7_beginMade [.ref x0] M)).bind fun m1 => bif pm_kd m1 7 x0 then ((pm_oL (pm_C mX7_allShares [.ref x0] m1)).bind fun q2 => (pm_pL q2.2 7 8 x0 q2.1).bind fun m3 => pm_res mX7_mix 14 [(0, .ref x0), (1, .int 0)] [] m3) else none) else none := (pm_xeqC mX7_mix c_X7_mix d_X7_mix rfl rfl 400 _ M).trans rfl
set_option maxRecDepth 100000 in
set_option maxHeartbeats 4000000 in
theorem e_X7_mix_14 (M : pm_M) (x0 : Nat) (x1 : Int32) : pm_res mX7_mix 14 [(0, .ref x0), (1, .int x1)] [] M = bif pm_kd M 7 x0 then ((pm_oI (pm_C mX7_sures [.ref x0] M)).bind fun q1 => 
    if q1.1 ≤ x1 then (some (.null, q1.2))
    else (pm_res mX7_mix 24 [(0, .ref x0), (1, .int x1), (2, .int 0)] [] q1.2)) else none := (pm_xeq mX7_mix c_X7_mix d_X7_mix rfl rfl 400 14 _ _ M).trans rfl
set_option maxRecDepth 100000 in
set_option maxHeartbeats 4000000 in
theorem e_X7_mix_24 (M : pm_M) (x0 : Nat) (x1 : Int32) (x2 : Int32) : pm_res mX7_mix 24 [(0, .ref x0), (1, .int x1), (2, .int x2)] [] M = (pm_gI M 7 3 x0).bind fun g1 => (pm_gI M 7 3 x0).bind fun g2 => 
    if (g1 * g2) ≤ x2 then (pm_res mX7_mix 14 [(0, .ref x0), (1, .int (x1 + 1))] [] M)
    else ((pm_gR M 7 6 x0).bind fun g3 => (pm_aI M g3 x1).bind fun g4 => 
      if g4 ≤ 0 then (pm_res mX7_mix 14 [(0, .ref x0), (1, .int (x1 + 1))] [] M)
      else ((pm_gI M 7 3 x0).bind fun g5 => pm_nz (decide (g5 = 0)) <| (pm_gI M 7 3 x0).bind fun g6 => pm_nz (decide (g6 = 0)) <| (pm_gR M 7 7 x0).bind fun g7 => (pm_gI M 7 3 x0).bind fun g8 => (pm_gI M 7 4 x0).bind fun g9 => (pm_oI (pm_C mX7_answer [.int g8, .int g9, .int x1, .int 0, .int (x2 / g5)] M)).bind fun q10 => (pm_gI q10.2 7 3 x0).bind fun g11 => (pm_gI q10.2 7 4 x0).bind fun g12 => (pm_oI (pm_C mX7_answer [.int g11, .int g12, .int x1, .int 1, .int (pm_rem x2 g6)] q10.2)).bind fun q13 => (pm_oI (pm_C mX7_place [.int (x2 / g5), .int (pm_rem x2 g6), .int q10.1, .int q13.1] q13.2)).bind fun q14 => (pm_aL q14.2 g7 q14.1).bind fun g15 => (pm_gR q14.2 7 6 x0).bind fun g16 => (pm_aI q14.2 g16 x1).bind fun g17 => (pm_sL q14.2 g7 q14.1 (g15 + g17.toInt64)).bind fun m18 => pm_res mX7_mix 24 [(0, .ref x0), (1, .int x1), (2, .int (x2 + 1))] [] m18)) := (pm_xeq mX7_mix c_X7_mix d_X7_mix rfl rfl 400 24 _ _ M).trans rfl
set_option maxRecDepth 100000 in
set_option maxHeartbeats 4000000 in
theorem e_X7_lay (M : pm_M) (x0 : Nat) (x1 : Int32) (x2 : Int32) (x3 : Int32) : pm_C mX7_lay [.ref x0, .int x1, .int x2, .int x3] M = (pm_gL M 7 8 x0).bind fun g1 => pm_res mX7_lay 9 [(0, .ref x0), (1, .int x1), (2, .int x2), (3, .int x3), (4, .long g1), (6, .int 0)] [] M := (pm_xeqC mX7_lay c_X7_lay d_X7_lay rfl rfl 400 _ M).trans rfl
set_option maxRecDepth 100000 in
set_option maxHeartbeats 4000000 in
theorem e_X7_lay_9 (M : pm_M) (x0 : Nat) (x1 : Int32) (x2 : Int32) (x3 : Int32) (x4 : Int64) (x6 : Int32) : pm_res mX7_lay 9 [(0, .ref x0), (1, .int x1), (2, .int x2), (3, .int x3), (4, .long x4), (6, .int x6)] [] M = 
    if 81 ≤ x6 then ((pm_gL M 7 8 x0).bind fun g1 => pm_nz (decide (x4 = 0)) <| 
      if (lg_cmp (g1 / x4) 1000000) ≤ 0 then (bif pm_kd M 7 x0 then ((pm_oV (pm_C mX7_keep [.ref x0] M)).bind fun m2 => (pm_gL m2 7 8 x0).bind fun g3 => pm_nz (decide (x4 = 0)) <| bif pm_kd m2 7 x0 then ((pm_oV (pm_C mX7_empty [.ref x0, .int x1, .int x2, .int x3, .int ((g3 / x4)).toInt32] m2)).bind fun m4 => pm_res mX7_lay 76 [(0, .ref x0), (1, .int x1), (4, .long x4), (6, .int 0)] [] m4) else none) else none)
      else (some (.long pm_FULL, M)))
    else ((pm_gR M 7 7 x0).bind fun g5 => (pm_aL M g5 x6).bind fun g6 => (pm_oL (pm_C mX7_common [.long g6, .long x4] M)).bind fun q7 => pm_res mX7_lay 9 [(0, .ref x0), (1, .int x1), (2, .int x2), (3, .int x3), (4, .long q7.1), (6, .int (x6 + 1))] [] q7.2) := (pm_xeq mX7_lay c_X7_lay d_X7_lay rfl rfl 400 9 _ _ M).trans rfl
set_option maxRecDepth 100000 in
set_option maxHeartbeats 4000000 in
theorem e_X7_lay_76 (M : pm_M) (x0 : Nat) (x1 : Int32) (x4 : Int64) (x6 : Int32) : pm_res mX7_lay 76 [(0, .ref x0), (1, .int x1), (4, .long x4), (6, .int x6)] [] M = 
    if 81 ≤ x6 then ((pm_gL M 7 8 x0).bind fun g1 => pm_nz (decide (x4 = 0)) <| some (.long (g1 / x4), M))
    else ((pm_gR M 7 0 x0).bind fun g2 => (pm_gR M 7 7 x0).bind fun g3 => (pm_aL M g3 x6).bind fun g4 => pm_nz (decide (x4 = 0)) <| (pm_sI M g2 (((84 * x1) + 3) + x6) ((g4 / x4)).toInt32).bind fun m5 => pm_res mX7_lay 76 [(0, .ref x0), (1, .int x1), (4, .long x4), (6, .int (x6 + 1))] [] m5) := (pm_xeq mX7_lay c_X7_lay d_X7_lay rfl rfl 400 76 _ _ M).trans rfl
set_option maxRecDepth 100000 in
set_option maxHeartbeats 4000000 in
theorem e_X7_mixed (M : pm_M) (x0 : Nat) (x1 : Int32) : pm_C mX7_mixed [.ref x0, .int x1] M = (pm_oI (pm_C mX7_isTable [.int x1] M)).bind fun q1 => 
    if q1.1 = 0 then (some (.long pm_BAD, q1.2))
    else (bif pm_kd q1.2 7 x0 then ((pm_oL (pm_C mX7_allShares [.ref x0] q1.2)).bind fun q2 => 
      if (lg_cmp q2.1 0) = 0 then (some (.long pm_NO, q2.2))
      else (bif pm_kd q2.2 7 x0 then ((pm_oV (pm_C mX7_mix [.ref x0] q2.2)).bind fun m3 => (pm_gI m3 7 3 x0).bind fun g4 => (pm_gI m3 7 4 x0).bind fun g5 => bif pm_kd m3 7 x0 then ((pm_oL (pm_C mX7_lay [.ref x0, .int x1, .int g4, .int g5] m3)).bind fun q6 => some (.long q6.1, q6.2)) else none) else none)) else none) := (pm_xeqC mX7_mixed c_X7_mixed d_X7_mixed rfl rfl 400 _ M).trans rfl
set_option maxRecDepth 100000 in
set_option maxHeartbeats 4000000 in
theorem e_X7_makes (M : pm_M) (x0 : Nat) (x1 : Int32) : pm_C mX7_makes [.ref x0, .int x1] M = (pm_oI (pm_C mX7_isTable [.int x1] M)).bind fun q1 => 
    if q1.1 = 0 then (some (.long pm_BAD, q1.2))
    else (bif pm_kd q1.2 7 x0 then ((pm_oI (pm_C mX7_fits [.ref x0, .int x1] q1.2)).bind fun q2 => 
      if q2.1 = 0 then (some (.long pm_NO, q2.2))
      else (bif pm_kd q2.2 7 x0 then ((pm_oL (pm_C mX7_allShares [.ref x0] q2.2)).bind fun q3 => 
        if (lg_cmp q3.1 0) = 0 then (some (.long pm_NO, q3.2))
        else (bif pm_kd q3.2 7 x0 then ((pm_oV (pm_C mX7_mix [.ref x0] q3.2)).bind fun m4 => pm_res mX7_makes 38 [(0, .ref x0), (1, .int x1), (2, .int 0)] [] m4) else none)) else none)) else none) := (pm_xeqC mX7_makes c_X7_makes d_X7_makes rfl rfl 400 _ M).trans rfl
set_option maxRecDepth 100000 in
set_option maxHeartbeats 4000000 in
theorem e_X7_makes_38 (M : pm_M) (x0 : Nat) (x1 : Int32) (x2 : Int32) : pm_res mX7_makes 38 [(0, .ref x0), (1, .int x1), (2, .int x2)] [] M = 
    if 81 ≤ x2 then (some (.long 0, M))
    else ((pm_gR M 7 7 x0).bind fun g1 => (pm_aL M g1 x2).bind fun g2 => bif pm_kd M 7 x0 then ((pm_oI (pm_C mX7_whole [.ref x0, .int x1] M)).bind fun q3 => (pm_gR q3.2 7 0 x0).bind fun g4 => (pm_aI q3.2 g4 (((84 * x1) + 3) + x2)).bind fun g5 => (pm_gL q3.2 7 8 x0).bind fun g6 => 
      if (lg_cmp (g2 * (q3.1).toInt64) (g5.toInt64 * g6)) = 0 then (pm_res mX7_makes 38 [(0, .ref x0), (1, .int x1), (2, .int (x2 + 1))] [] q3.2)
      else (some (.long (1 + x2.toInt64), q3.2))) else none) := (pm_xeq mX7_makes c_X7_makes d_X7_makes rfl rfl 400 38 _ _ M).trans rfl
set_option maxRecDepth 100000 in
set_option maxHeartbeats 4000000 in
theorem e_X7_areProper (M : pm_M) (x0 : Nat) (x1 : Int32) (x2 : Int32) : pm_C mX7_areProper [.ref x0, .int x1, .int x2] M = bif pm_kd M 7 x0 then ((pm_oI (pm_C mX7_isMissing [.ref x0, .int x1] M)).bind fun q1 => 
    if q1.1 = 0 then (bif pm_kd q1.2 7 x0 then ((pm_oI (pm_C mX7_isMissing [.ref x0, .int x2] q1.2)).bind fun q2 => 
      if q2.1 = 0 then (bif pm_kd q2.2 7 x0 then ((pm_oI (pm_C mX7_isProper [.ref x0, .int x1] q2.2)).bind fun q3 => 
        if q3.1 = 0 then (some (.int 0, q3.2))
        else (bif pm_kd q3.2 7 x0 then ((pm_oI (pm_C mX7_isProper [.ref x0, .int x2] q3.2)).bind fun q4 => 
          if q4.1 = 0 then (some (.int 0, q4.2))
          else (some (.int 1, q4.2))) else none)) else none)
      else (some (.int 0, q2.2))) else none)
    else (some (.int 0, q1.2))) else none := (pm_xeqC mX7_areProper c_X7_areProper d_X7_areProper rfl rfl 400 _ M).trans rfl
set_option maxRecDepth 100000 in
set_option maxHeartbeats 4000000 in
theorem e_X7_wire (M : pm_M) (x0 : Nat) (x1 : Int32) (x2 : Int32) (x3 : Int32) : pm_C mX7_wire [.ref x0, .int x1, .int x2, .int x3] M = (pm_oI (pm_C mX7_isTable [.int x1] M)).bind fun q1 => 
    if q1.1 = 0 then (some (.long pm_BAD, q1.2))
    else ((pm_oI (pm_C mX7_isTable [.int x2] q1.2)).bind fun q2 => 
      if q2.1 = 0 then (some (.long pm_BAD, q2.2))
      else ((pm_oI (pm_C mX7_isTable [.int x3] q2.2)).bind fun q3 => 
        if q3.1 = 0 then (some (.long pm_BAD, q3.2))
        else (bif pm_kd q3.2 7 x0 then ((pm_oI (pm_C mX7_areProper [.ref x0, .int x1, .int x2] q3.2)).bind fun q4 => 
          if q4.1 = 0 then (some (.long pm_NO, q4.2))
          else (bif pm_kd q4.2 7 x0 then ((pm_oI (pm_C mX7_a [.ref x0, .int x1] q4.2)).bind fun q5 => bif pm_kd q5.2 7 x0 then ((pm_oI (pm_C mX7_q [.ref x0, .int x2] q5.2)).bind fun q6 => 
            if q5.1 = q6.1 then (bif pm_kd q6.2 7 x0 then ((pm_oV (pm_C mX7_beginMade [.ref x0] q6.2)).bind fun m7 => bif pm_kd m7 7 x0 then ((pm_oI (pm_C mX7_a [.ref x0, .int x1] m7)).bind fun q8 => pm_res mX7_wire 65 [(0, .ref x0), (1, .int x1), (2, .int x2), (3, .int x3), (4, .int q8.1), (5, .int 0)] [] q8.2) else none) else none)
            else (some (.long pm_NO, q6.2))) else none) else none)) else none))) := (pm_xeqC mX7_wire c_X7_wire d_X7_wire rfl rfl 400 _ M).trans rfl
set_option maxRecDepth 100000 in
set_option maxHeartbeats 4000000 in
theorem e_X7_wire_65 (M : pm_M) (x0 : Nat) (x1 : Int32) (x2 : Int32) (x3 : Int32) (x4 : Int32) (x5 : Int32) : pm_res mX7_wire 65 [(0, .ref x0), (1, .int x1), (2, .int x2), (3, .int x3), (4, .int x4), (5, .int x5)] [] M = 
    if 81 ≤ x5 then (bif pm_kd M 7 x0 then ((pm_oI (pm_C mX7_whole [.ref x0, .int x1] M)).bind fun q1 => bif pm_kd q1.2 7 x0 then ((pm_oI (pm_C mX7_whole [.ref x0, .int x2] q1.2)).bind fun q2 => (pm_pL q2.2 7 8 x0 ((q1.1).toInt64 * (q2.1).toInt64)).bind fun m3 => bif pm_kd m3 7 x0 then ((pm_oI (pm_C mX7_q [.ref x0, .int x1] m3)).bind fun q4 => bif pm_kd q4.2 7 x0 then ((pm_oI (pm_C mX7_a [.ref x0, .int x2] q4.2)).bind fun q5 => bif pm_kd q5.2 7 x0 then ((pm_oL (pm_C mX7_lay [.ref x0, .int x3, .int q4.1, .int q5.1] q5.2)).bind fun q6 => some (.long q6.1, q6.2)) else none) else none) else none) else none) else none)
    else (pm_res mX7_wire 91 [(0, .ref x0), (1, .int x1), (2, .int x2), (3, .int x3), (4, .int x4), (5, .int x5), (6, .int (x5 / 27)), (7, .int (pm_rem (x5 / 9) 3)), (8, .int 0)] [] M) := (pm_xeq mX7_wire c_X7_wire d_X7_wire rfl rfl 400 65 _ _ M).trans rfl
set_option maxRecDepth 100000 in
set_option maxHeartbeats 4000000 in
theorem e_X7_wire_91 (M : pm_M) (x0 : Nat) (x1 : Int32) (x2 : Int32) (x3 : Int32) (x4 : Int32) (x5 : Int32) (x6 : Int32) (x7 : Int32) (x8 : Int32) : pm_res mX7_wire 91 [(0, .ref x0), (1, .int x1), (2, .int x2), (3, .int x3), (4, .int x4), (5, .int x5), (6, .int x6), (7, .int x7), (8, .int x8)] [] M = 
    if (x4 * x4) ≤ x8 then (pm_res mX7_wire 65 [(0, .ref x0), (1, .int x1), (2, .int x2), (3, .int x3), (4, .int x4), (5, .int (x5 + 1))] [] M)
    else (bif pm_kd M 7 x0 then ((pm_oI (pm_C mX7_q [.ref x0, .int x1] M)).bind fun q1 => 
      if q1.1 ≤ x6 then (pm_res mX7_wire 65 [(0, .ref x0), (1, .int x1), (2, .int x2), (3, .int x3), (4, .int x4), (5, .int (x5 + 1))] [] q1.2)
      else (bif pm_kd q1.2 7 x0 then ((pm_oI (pm_C mX7_q [.ref x0, .int x1] q1.2)).bind fun q2 => 
        if q2.1 ≤ x7 then (pm_res mX7_wire 65 [(0, .ref x0), (1, .int x1), (2, .int x2), (3, .int x3), (4, .int x4), (5, .int (x5 + 1))] [] q2.2)
        else ((pm_gR q2.2 7 7 x0).bind fun g3 => (pm_aL q2.2 g3 x5).bind fun g4 => pm_nz (decide (x4 = 0)) <| pm_nz (decide (x4 = 0)) <| bif pm_kd q2.2 7 x0 then ((pm_oI (pm_C mX7_get [.ref x0, .int x1, .int x6, .int x7, .int (x8 / x4), .int (pm_rem x8 x4)] q2.2)).bind fun q5 => pm_nz (decide (x4 = 0)) <| pm_nz (decide (x4 = 0)) <| bif pm_kd q5.2 7 x0 then ((pm_oI (pm_C mX7_get [.ref x0, .int x2, .int (x8 / x4), .int (pm_rem x8 x4), .int (pm_rem (x5 / 3) 3), .int (pm_rem x5 3)] q5.2)).bind fun q6 => (pm_sL q6.2 g3 x5 (g4 + ((q5.1).toInt64 * (q6.1).toInt64))).bind fun m7 => pm_res mX7_wire 91 [(0, .ref x0), (1, .int x1), (2, .int x2), (3, .int x3), (4, .int x4), (5, .int x5), (6, .int x6), (7, .int x7), (8, .int (x8 + 1))] [] m7) else none) else none)) else none)) else none) := (pm_xeq mX7_wire c_X7_wire d_X7_wire rfl rfl 400 91 _ _ M).trans rfl
set_option maxRecDepth 100000 in
set_option maxHeartbeats 4000000 in
theorem e_X7_blend (M : pm_M) (x0 : Nat) (x1 : Int32) (x2 : Int32) (x3 : Int32) (x4 : Int32) : pm_C mX7_blend [.ref x0, .int x1, .int x2, .int x3, .int x4] M = (pm_oI (pm_C mX7_isTable [.int x1] M)).bind fun q1 => 
    if q1.1 = 0 then (some (.long pm_BAD, q1.2))
    else ((pm_oI (pm_C mX7_isTable [.int x2] q1.2)).bind fun q2 => 
      if q2.1 = 0 then (some (.long pm_BAD, q2.2))
      else ((pm_oI (pm_C mX7_isTable [.int x3] q2.2)).bind fun q3 => 
        if q3.1 = 0 then (some (.long pm_BAD, q3.2))
        else ((pm_oI (pm_C mX7_isIn [.long x4.toInt64, .long 1, .long 1002000] q3.2)).bind fun q4 => 
          if q4.1 = 0 then (some (.long pm_BAD, q4.2))
          else (bif pm_kd q4.2 7 x0 then ((pm_oI (pm_C mX7_areProper [.ref x0, .int x1, .int x2] q4.2)).bind fun q5 => 
            if q5.1 = 0 then (some (.long pm_NO, q5.2))
            else (bif pm_kd q5.2 7 x0 then ((pm_oI (pm_C mX7_q [.ref x0, .int x1] q5.2)).bind fun q6 => bif pm_kd q6.2 7 x0 then ((pm_oI (pm_C mX7_q [.ref x0, .int x2] q6.2)).bind fun q7 => 
              if q6.1 = q7.1 then (bif pm_kd q7.2 7 x0 then ((pm_oI (pm_C mX7_a [.ref x0, .int x1] q7.2)).bind fun q8 => bif pm_kd q8.2 7 x0 then ((pm_oI (pm_C mX7_a [.ref x0, .int x2] q8.2)).bind fun q9 => 
                if q8.1 = q9.1 then (pm_res mX7_blend 98 [(0, .ref x0), (1, .int x1), (2, .int x2), (3, .int x3), (5, .long ((x4 / 1001)).toInt64), (7, .long ((pm_rem x4 1001)).toInt64), (9, .int 0)] [] q9.2)
                else (some (.long pm_NO, q9.2))) else none) else none)
              else (some (.long pm_NO, q7.2))) else none) else none)) else none)))) := (pm_xeqC mX7_blend c_X7_blend d_X7_blend rfl rfl 400 _ M).trans rfl
set_option maxRecDepth 100000 in
set_option maxHeartbeats 4000000 in
theorem e_X7_blend_98 (M : pm_M) (x0 : Nat) (x1 : Int32) (x2 : Int32) (x3 : Int32) (x5 : Int64) (x7 : Int64) (x9 : Int32) : pm_res mX7_blend 98 [(0, .ref x0), (1, .int x1), (2, .int x2), (3, .int x3), (5, .long x5), (7, .long x7), (9, .int x9)] [] M = 
    if 81 ≤ x9 then (bif pm_kd M 7 x0 then ((pm_oI (pm_C mX7_whole [.ref x0, .int x1] M)).bind fun q1 => bif pm_kd q1.2 7 x0 then ((pm_oI (pm_C mX7_whole [.ref x0, .int x2] q1.2)).bind fun q2 => (pm_pL q2.2 7 8 x0 (((x5 + x7) * (q1.1).toInt64) * (q2.1).toInt64)).bind fun m3 => bif pm_kd m3 7 x0 then ((pm_oI (pm_C mX7_q [.ref x0, .int x1] m3)).bind fun q4 => bif pm_kd q4.2 7 x0 then ((pm_oI (pm_C mX7_a [.ref x0, .int x1] q4.2)).bind fun q5 => bif pm_kd q5.2 7 x0 then ((pm_oL (pm_C mX7_lay [.ref x0, .int x3, .int q4.1, .int q5.1] q5.2)).bind fun q6 => some (.long q6.1, q6.2)) else none) else none) else none) else none) else none)
    else ((pm_gR M 7 7 x0).bind fun g7 => (pm_gR M 7 0 x0).bind fun g8 => (pm_aI M g8 (((84 * x1) + 3) + x9)).bind fun g9 => bif pm_kd M 7 x0 then ((pm_oI (pm_C mX7_whole [.ref x0, .int x2] M)).bind fun q10 => (pm_gR q10.2 7 0 x0).bind fun g11 => (pm_aI q10.2 g11 (((84 * x2) + 3) + x9)).bind fun g12 => bif pm_kd q10.2 7 x0 then ((pm_oI (pm_C mX7_whole [.ref x0, .int x1] q10.2)).bind fun q13 => (pm_sL q13.2 g7 x9 (((x5 * g9.toInt64) * (q10.1).toInt64) + ((x7 * g12.toInt64) * (q13.1).toInt64))).bind fun m14 => pm_res mX7_blend 98 [(0, .ref x0), (1, .int x1), (2, .int x2), (3, .int x3), (5, .long x5), (7, .long x7), (9, .int (x9 + 1))] [] m14) else none) else none) := (pm_xeq mX7_blend c_X7_blend d_X7_blend rfl rfl 400 98 _ _ M).trans rfl
set_option maxRecDepth 100000 in
set_option maxHeartbeats 4000000 in
theorem e_X7_parity (M : pm_M) (x0 : Nat) (x1 : Int32) (x2 : Int32) (x3 : Int32) : pm_C mX7_parity [.ref x0, .int x1, .int x2, .int x3] M = (pm_oI (pm_C mX7_isTable [.int x1] M)).bind fun q1 => 
    if q1.1 = 0 then (some (.long pm_BAD, q1.2))
    else ((pm_oI (pm_C mX7_isTable [.int x2] q1.2)).bind fun q2 => 
      if q2.1 = 0 then (some (.long pm_BAD, q2.2))
      else ((pm_oI (pm_C mX7_isTable [.int x3] q2.2)).bind fun q3 => 
        if q3.1 = 0 then (some (.long pm_BAD, q3.2))
        else (bif pm_kd q3.2 7 x0 then ((pm_oI (pm_C mX7_areProper [.ref x0, .int x1, .int x2] q3.2)).bind fun q4 => 
          if q4.1 = 0 then (some (.long pm_NO, q4.2))
          else (bif pm_kd q4.2 7 x0 then ((pm_oI (pm_C mX7_q [.ref x0, .int x1] q4.2)).bind fun q5 => bif pm_kd q5.2 7 x0 then ((pm_oI (pm_C mX7_q [.ref x0, .int x2] q5.2)).bind fun q6 => 
            if q5.1 = q6.1 then (bif pm_kd q6.2 7 x0 then ((pm_oI (pm_C mX7_a [.ref x0, .int x1] q6.2)).bind fun q7 => 
              if q7.1 = 2 then (bif pm_kd q7.2 7 x0 then ((pm_oI (pm_C mX7_a [.ref x0, .int x2] q7.2)).bind fun q8 => 
                if q8.1 = 2 then (bif pm_kd q8.2 7 x0 then ((pm_oV (pm_C mX7_beginMade [.ref x0] q8.2)).bind fun m9 => pm_res mX7_parity 76 [(0, .ref x0), (1, .int x1), (2, .int x2), (3, .int x3), (4, .int 0)] [] m9) else none)
                else (some (.long pm_NO, q8.2))) else none)
              else (some (.long pm_NO, q7.2))) else none)
            else (some (.long pm_NO, q6.2))) else none) else none)) else none))) := (pm_xeqC mX7_parity c_X7_parity d_X7_parity rfl rfl 400 _ M).trans rfl
set_option maxRecDepth 100000 in
set_option maxHeartbeats 4000000 in
theorem e_X7_parity_76 (M : pm_M) (x0 : Nat) (x1 : Int32) (x2 : Int32) (x3 : Int32) (x4 : Int32) : pm_res mX7_parity 76 [(0, .ref x0), (1, .int x1), (2, .int x2), (3, .int x3), (4, .int x4)] [] M = bif pm_kd M 7 x0 then ((pm_oI (pm_C mX7_q [.ref x0, .int x1] M)).bind fun q1 => 
    if q1.1 ≤ x4 then (bif pm_kd q1.2 7 x0 then ((pm_oI (pm_C mX7_whole [.ref x0, .int x1] q1.2)).bind fun q2 => bif pm_kd q2.2 7 x0 then ((pm_oI (pm_C mX7_whole [.ref x0, .int x2] q2.2)).bind fun q3 => (pm_pL q3.2 7 8 x0 ((q2.1).toInt64 * (q3.1).toInt64)).bind fun m4 => bif pm_kd m4 7 x0 then ((pm_oI (pm_C mX7_q [.ref x0, .int x1] m4)).bind fun q5 => bif pm_kd q5.2 7 x0 then ((pm_oL (pm_C mX7_lay [.ref x0, .int x3, .int q5.1, .int 2] q5.2)).bind fun q6 => some (.long q6.1, q6.2)) else none) else none) else none) else none)
    else (pm_res mX7_parity 89 [(0, .ref x0), (1, .int x1), (2, .int x2), (3, .int x3), (4, .int x4), (5, .int 0)] [] q1.2)) else none := (pm_xeq mX7_parity c_X7_parity d_X7_parity rfl rfl 400 76 _ _ M).trans rfl
set_option maxRecDepth 100000 in
set_option maxHeartbeats 4000000 in
theorem e_X7_parity_89 (M : pm_M) (x0 : Nat) (x1 : Int32) (x2 : Int32) (x3 : Int32) (x4 : Int32) (x5 : Int32) : pm_res mX7_parity 89 [(0, .ref x0), (1, .int x1), (2, .int x2), (3, .int x3), (4, .int x4), (5, .int x5)] [] M = bif pm_kd M 7 x0 then ((pm_oI (pm_C mX7_q [.ref x0, .int x1] M)).bind fun q1 => 
    if q1.1 ≤ x5 then (pm_res mX7_parity 76 [(0, .ref x0), (1, .int x1), (2, .int x2), (3, .int x3), (4, .int (x4 + 1))] [] q1.2)
    else (pm_res mX7_parity 102 [(0, .ref x0), (1, .int x1), (2, .int x2), (3, .int x3), (4, .int x4), (5, .int x5), (6, .int 0)] [] q1.2)) else none := (pm_xeq mX7_parity c_X7_parity d_X7_parity rfl rfl 400 89 _ _ M).trans rfl
set_option maxRecDepth 100000 in
set_option maxHeartbeats 4000000 in
theorem e_X7_parity_102 (M : pm_M) (x0 : Nat) (x1 : Int32) (x2 : Int32) (x3 : Int32) (x4 : Int32) (x5 : Int32) (x6 : Int32) : pm_res mX7_parity 102 [(0, .ref x0), (1, .int x1), (2, .int x2), (3, .int x3), (4, .int x4), (5, .int x5), (6, .int x6)] [] M = 
    if 16 ≤ x6 then (pm_res mX7_parity 89 [(0, .ref x0), (1, .int x1), (2, .int x2), (3, .int x3), (4, .int x4), (5, .int (x5 + 1))] [] M)
    else ((pm_gR M 7 7 x0).bind fun g1 => (pm_oI (pm_C mX7_place [.int x4, .int x5, .int ((x6 / 8) ^^^ (pm_rem (x6 / 2) 2)), .int ((pm_rem (x6 / 4) 2) ^^^ (pm_rem x6 2))] M)).bind fun q2 => (pm_aL q2.2 g1 q2.1).bind fun g3 => bif pm_kd q2.2 7 x0 then ((pm_oI (pm_C mX7_get [.ref x0, .int x1, .int x4, .int x5, .int (x6 / 8), .int (pm_rem (x6 / 4) 2)] q2.2)).bind fun q4 => bif pm_kd q4.2 7 x0 then ((pm_oI (pm_C mX7_get [.ref x0, .int x2, .int x4, .int x5, .int (pm_rem (x6 / 2) 2), .int (pm_rem x6 2)] q4.2)).bind fun q5 => (pm_sL q5.2 g1 q2.1 (g3 + ((q4.1).toInt64 * (q5.1).toInt64))).bind fun m6 => pm_res mX7_parity 102 [(0, .ref x0), (1, .int x1), (2, .int x2), (3, .int x3), (4, .int x4), (5, .int x5), (6, .int (x6 + 1))] [] m6) else none) else none) := (pm_xeq mX7_parity c_X7_parity d_X7_parity rfl rfl 400 102 _ _ M).trans rfl
set_option maxRecDepth 100000 in
set_option maxHeartbeats 4000000 in
theorem e_X7_count (M : pm_M) (x0 : Nat) (x1 : Int32) : pm_C mX7_count [.ref x0, .int x1] M = 
    if x1 = 0 then (pm_res mX7_count 42 [(0, .ref x0), (2, .int 0), (3, .int 0)] [] M) else
    if x1 = 1 then (bif pm_kd M 7 x0 then ((pm_oI (pm_C mX7_manyShares [.ref x0] M)).bind fun q1 => some (.long (q1.1).toInt64, q1.2)) else none) else
    if x1 = 2 then (bif pm_kd M 7 x0 then ((pm_oL (pm_C mX7_allShares [.ref x0] M)).bind fun q2 => some (.long q2.1, q2.2)) else none) else
    if x1 = 3 then ((pm_gI M 7 2 x0).bind fun g3 => some (.long g3.toInt64, M)) else
    if x1 = 4 then (pm_res mX7_count 92 [(0, .ref x0), (2, .int 0), (3, .int 0)] [] M) else
    if x1 = 5 then (bif pm_kd M 7 x0 then ((pm_oI (pm_C mX7_sures [.ref x0] M)).bind fun q4 => some (.long (q4.1).toInt64, q4.2)) else none) else
    (some (.long pm_BAD, M)) := (pm_xeqC mX7_count c_X7_count d_X7_count rfl rfl 400 _ M).trans rfl
set_option maxRecDepth 100000 in
set_option maxHeartbeats 4000000 in
theorem e_X7_count_42 (M : pm_M) (x0 : Nat) (x2 : Int32) (x3 : Int32) : pm_res mX7_count 42 [(0, .ref x0), (2, .int x2), (3, .int x3)] [] M = 
    if 8 ≤ x3 then (some (.long x2.toInt64, M))
    else (bif pm_kd M 7 x0 then ((pm_oI (pm_C mX7_isMissing [.ref x0, .int x3] M)).bind fun q1 => 
      if q1.1 = 0 then (pm_res mX7_count 42 [(0, .ref x0), (2, .int (x2 + 1)), (3, .int (x3 + 1))] [] q1.2)
      else (pm_res mX7_count 42 [(0, .ref x0), (2, .int (x2 + 0)), (3, .int (x3 + 1))] [] q1.2)) else none) := (pm_xeq mX7_count c_X7_count d_X7_count rfl rfl 400 42 _ _ M).trans rfl
set_option maxRecDepth 100000 in
set_option maxHeartbeats 4000000 in
theorem e_X7_count_92 (M : pm_M) (x0 : Nat) (x2 : Int32) (x3 : Int32) : pm_res mX7_count 92 [(0, .ref x0), (2, .int x2), (3, .int x3)] [] M = 
    if 81 ≤ x3 then (some (.long x2.toInt64, M))
    else ((pm_gR M 7 5 x0).bind fun g1 => (pm_aI M g1 x3).bind fun g2 => 
      if g2 = 0 then (pm_res mX7_count 92 [(0, .ref x0), (2, .int (x2 + 0)), (3, .int (x3 + 1))] [] M)
      else (pm_res mX7_count 92 [(0, .ref x0), (2, .int (x2 + 1)), (3, .int (x3 + 1))] [] M)) := (pm_xeq mX7_count c_X7_count d_X7_count rfl rfl 400 92 _ _ M).trans rfl
