set_option maxRecDepth 100000 in
set_option maxHeartbeats 4000000 in
theorem e_X6_init (M : pm_M) (x0 : Nat) : pm_C mX6_init [.ref x0] M = (pm_pR (pm_new M (10, 8)) 6 0 x0 (M).1.length).bind fun m1 => pm_res mX6_init 15 [(0, .ref x0), (1, .int 0)] [] m1 := (pm_xeqC mX6_init c_X6_init d_X6_init rfl rfl 400 _ M).trans rfl
set_option maxRecDepth 100000 in
set_option maxHeartbeats 4000000 in
theorem e_X6_init_15 (M : pm_M) (x0 : Nat) (x1 : Int32) : pm_res mX6_init 15 [(0, .ref x0), (1, .int x1)] [] M = 
    if 8 ≤ x1 then (bif pm_kd (pm_new M (2, 4)) 2 (M).1.length then ((pm_oV (pm_C mX2_init [.ref (M).1.length] (pm_new M (2, 4)))).bind fun m1 => (pm_pR m1 6 1 x0 (M).1.length).bind fun m2 => bif pm_kd (pm_new m2 (3, 12)) 3 (m2).1.length then ((pm_oV (pm_C mX3_init [.ref (m2).1.length] (pm_new m2 (3, 12)))).bind fun m3 => (pm_pR m3 6 2 x0 (m2).1.length).bind fun m4 => bif pm_kd (pm_new m4 (4, 3)) 4 (m4).1.length then ((pm_oV (pm_C mX4_init [.ref (m4).1.length] (pm_new m4 (4, 3)))).bind fun m5 => (pm_pR m5 6 3 x0 (m4).1.length).bind fun m6 => bif pm_kd (pm_new m6 (1, 4)) 1 (m6).1.length then ((pm_oV (pm_C mX1_init [.ref (m6).1.length] (pm_new m6 (1, 4)))).bind fun m7 => (pm_pR m7 6 4 x0 (m6).1.length).bind fun m8 => bif pm_kd (pm_new m8 (0, 2)) 0 (m8).1.length then ((pm_oV (pm_C mX0_init [.ref (m8).1.length] (pm_new m8 (0, 2)))).bind fun m9 => (pm_pR m9 6 5 x0 (m8).1.length).bind fun m10 => some (.null, m10)) else none) else none) else none) else none) else none)
    else ((pm_gR M 6 0 x0).bind fun g11 => bif pm_kd (pm_new M (5, 4)) 5 (M).1.length then ((pm_oV (pm_C mX5_init [.ref (M).1.length] (pm_new M (5, 4)))).bind fun m12 => (pm_sR m12 g11 x1 (M).1.length).bind fun m13 => pm_res mX6_init 15 [(0, .ref x0), (1, .int (x1 + 1))] [] m13) else none) := (pm_xeq mX6_init c_X6_init d_X6_init rfl rfl 400 15 _ _ M).trans rfl
set_option maxRecDepth 100000 in
set_option maxHeartbeats 4000000 in
theorem e_X6_shape (M : pm_M) (x0 : Nat) (x1 : Int32) (x2 : Int32) (x3 : Int32) (x4 : Int32) : pm_C mX6_shape [.ref x0, .int x1, .int x2, .int x3, .int x4] M = (pm_oI (pm_C mX6_isTable [.int x1] M)).bind fun q1 => 
    if q1.1 = 0 then (some (.long pm_BAD, q1.2))
    else ((pm_oI (pm_C mX6_isShape [.int x2, .int x3] q1.2)).bind fun q2 => 
      if q2.1 = 0 then (some (.long pm_BAD, q2.2))
      else (
        if x4 < 1 then (some (.long pm_BAD, q2.2))
        else (
          if x4 ≤ 1000000 then (bif pm_kd q2.2 6 x0 then ((pm_oR (pm_C mX6_changing [.ref x0, .int x1] q2.2)).bind fun q3 => bif pm_kd q3.2 5 q3.1 then ((pm_oV (pm_C mX5_restart [.ref q3.1, .int x2, .int x3, .int x4] q3.2)).bind fun m4 => some (.long ((((x2 * x2) * x3) * x3)).toInt64, m4)) else none) else none)
          else (some (.long pm_BAD, q2.2))))) := (pm_xeqC mX6_shape c_X6_shape d_X6_shape rfl rfl 400 _ M).trans rfl
set_option maxRecDepth 100000 in
set_option maxHeartbeats 4000000 in
theorem e_X6_lose (M : pm_M) (x0 : Nat) (x1 : Int32) : pm_C mX6_lose [.ref x0, .int x1] M = (pm_oI (pm_C mX6_isTable [.int x1] M)).bind fun q1 => 
    if q1.1 = 0 then (some (.long pm_BAD, q1.2))
    else ((pm_gR q1.2 6 0 x0).bind fun g2 => (pm_aR q1.2 g2 x1).bind fun g3 => bif pm_kd q1.2 5 g3 then ((pm_oI (pm_C mX5_isMissing [.ref g3] q1.2)).bind fun q4 => 
      if q4.1 = 0 then (bif pm_kd q4.2 6 x0 then ((pm_oR (pm_C mX6_changing [.ref x0, .int x1] q4.2)).bind fun q5 => bif pm_kd q5.2 5 q5.1 then ((pm_oV (pm_C mX5_restart [.ref q5.1, .int 0, .int 0, .int 0] q5.2)).bind fun m6 => some (.long 0, m6)) else none) else none)
      else (some (.long pm_NO, q4.2))) else none) := (pm_xeqC mX6_lose c_X6_lose d_X6_lose rfl rfl 400 _ M).trans rfl
set_option maxRecDepth 100000 in
set_option maxHeartbeats 4000000 in
theorem e_X6_cell (M : pm_M) (x0 : Nat) (x1 : Int32) (x2 : Int32) (x3 : Int32) (x4 : Int32) : pm_C mX6_cell [.ref x0, .int x1, .int x2, .int x3, .int x4] M = (pm_oI (pm_C mX6_isTable [.int x1] M)).bind fun q1 => 
    if q1.1 = 0 then (some (.long pm_BAD, q1.2))
    else ((pm_gR q1.2 6 0 x0).bind fun g2 => (pm_aR q1.2 g2 x1).bind fun g3 => bif pm_kd q1.2 5 g3 then ((pm_oI (pm_C mX5_isMissing [.ref g3] q1.2)).bind fun q4 => 
      if q4.1 = 0 then (bif pm_kd q4.2 5 g3 then ((pm_oI (pm_C mX5_hasRows [.ref g3, .int x2, .int x3] q4.2)).bind fun q5 => 
        if q5.1 = 0 then (some (.long pm_BAD, q5.2))
        else (
          if x4 < 0 then (some (.long pm_BAD, q5.2))
          else ((pm_gI q5.2 5 2 g3).bind fun g6 => 
            if x4 ≤ g6 then ((pm_gR q5.2 5 3 g3).bind fun g7 => (pm_aI q5.2 g7 ((9 * x2) + x3)).bind fun g8 => bif pm_kd q5.2 6 x0 then ((pm_oR (pm_C mX6_changing [.ref x0, .int x1] q5.2)).bind fun q9 => (pm_gR q9.2 5 3 q9.1).bind fun g10 => (pm_sI q9.2 g10 ((9 * x2) + x3) x4).bind fun m11 => some (.long g8.toInt64, m11)) else none)
            else (some (.long pm_BAD, q5.2))))) else none)
      else (some (.long pm_NO, q4.2))) else none) := (pm_xeqC mX6_cell c_X6_cell d_X6_cell rfl rfl 400 _ M).trans rfl
set_option maxRecDepth 100000 in
set_option maxHeartbeats 4000000 in
theorem e_X6_sure (M : pm_M) (x0 : Nat) (x1 : Int32) (x2 : Int32) (x3 : Int32) (x4 : Int32) : pm_C mX6_sure [.ref x0, .int x1, .int x2, .int x3, .int x4] M = (pm_oI (pm_C mX6_isTable [.int x1] M)).bind fun q1 => 
    if q1.1 = 0 then (some (.long pm_BAD, q1.2))
    else ((pm_oI (pm_C mX6_isShape [.int x2, .int x3] q1.2)).bind fun q2 => 
      if q2.1 = 0 then (some (.long pm_BAD, q2.2))
      else (
        if x4 < 0 then (some (.long pm_BAD, q2.2))
        else ((pm_oI (pm_C mX6_sureTables [.int x2, .int x3] q2.2)).bind fun q3 => 
          if x4 < q3.1 then ((pm_gR q3.2 6 4 x0).bind fun g4 => bif pm_kd q3.2 1 g4 then ((pm_oV (pm_C mX1_start [.ref g4, .int x2, .int x3] q3.2)).bind fun m5 => (pm_gR m5 6 4 x0).bind fun g6 => bif pm_kd m5 1 g6 then ((pm_oV (pm_C mX1_addSure [.ref g6, .int x4, .int 1] m5)).bind fun m7 => (pm_gR m7 6 4 x0).bind fun g8 => bif pm_kd m7 6 x0 then ((pm_oR (pm_C mX6_changing [.ref x0, .int x1] m7)).bind fun q9 => bif pm_kd q9.2 1 g8 then ((pm_oV (pm_C mX1_putInto [.ref g8, .ref q9.1] q9.2)).bind fun m10 => some (.long 0, m10)) else none) else none) else none) else none)
          else (some (.long pm_BAD, q3.2))))) := (pm_xeqC mX6_sure c_X6_sure d_X6_sure rfl rfl 400 _ M).trans rfl
set_option maxRecDepth 100000 in
set_option maxHeartbeats 4000000 in
theorem e_X6_corner (M : pm_M) (x0 : Nat) (x1 : Int32) (x2 : Int32) : pm_C mX6_corner [.ref x0, .int x1, .int x2] M = (pm_oI (pm_C mX6_isTable [.int x1] M)).bind fun q1 => 
    if q1.1 = 0 then (some (.long pm_BAD, q1.2))
    else (
      if x2 < 0 then (some (.long pm_BAD, q1.2))
      else (
        if x2 < 24 then ((pm_gR q1.2 6 4 x0).bind fun g2 => bif pm_kd q1.2 1 g2 then ((pm_oV (pm_C mX1_startCorner [.ref g2, .int x2] q1.2)).bind fun m3 => (pm_gR m3 6 4 x0).bind fun g4 => bif pm_kd m3 6 x0 then ((pm_oR (pm_C mX6_changing [.ref x0, .int x1] m3)).bind fun q5 => bif pm_kd q5.2 1 g4 then ((pm_oV (pm_C mX1_putInto [.ref g4, .ref q5.1] q5.2)).bind fun m6 => some (.long 0, m6)) else none) else none) else none)
        else (some (.long pm_BAD, q1.2)))) := (pm_xeqC mX6_corner c_X6_corner d_X6_corner rfl rfl 400 _ M).trans rfl
set_option maxRecDepth 100000 in
set_option maxHeartbeats 4000000 in
theorem e_X6_about (M : pm_M) (x0 : Nat) (x1 : Int32) (x2 : Int32) : pm_C mX6_about [.ref x0, .int x1, .int x2] M = (pm_oI (pm_C mX6_isTable [.int x1] M)).bind fun q1 => 
    if q1.1 = 0 then (some (.long pm_BAD, q1.2))
    else (
      if x2 < 0 then (some (.long pm_BAD, q1.2))
      else (
        if x2 ≤ 3 then ((pm_gR q1.2 6 0 x0).bind fun g2 => (pm_aR q1.2 g2 x1).bind fun g3 => bif pm_kd q1.2 5 g3 then ((pm_oI (pm_C mX5_isMissing [.ref g3] q1.2)).bind fun q4 => 
          if q4.1 = 0 then (
            if x2 = 0 then ((pm_gI q4.2 5 0 g3).bind fun g5 => some (.long g5.toInt64, q4.2)) else
            if x2 = 1 then ((pm_gI q4.2 5 1 g3).bind fun g6 => some (.long g6.toInt64, q4.2)) else
            if x2 = 2 then ((pm_gI q4.2 5 2 g3).bind fun g7 => some (.long g7.toInt64, q4.2)) else
            ((pm_gR q4.2 5 3 g3).bind fun g8 => (pm_oI (pm_C mX6_countNotZero [.ref g8] q4.2)).bind fun q9 => some (.long (q9.1).toInt64, q9.2)))
          else (some (.long pm_NO, q4.2))) else none)
        else (some (.long pm_BAD, q1.2)))) := (pm_xeqC mX6_about c_X6_about d_X6_about rfl rfl 400 _ M).trans rfl
set_option maxRecDepth 100000 in
set_option maxHeartbeats 4000000 in
theorem e_X6_chance (M : pm_M) (x0 : Nat) (x1 : Int32) (x2 : Int32) (x3 : Int32) : pm_C mX6_chance [.ref x0, .int x1, .int x2, .int x3] M = (pm_oI (pm_C mX6_isTable [.int x1] M)).bind fun q1 => 
    if q1.1 = 0 then (some (.long pm_BAD, q1.2))
    else ((pm_gR q1.2 6 0 x0).bind fun g2 => (pm_aR q1.2 g2 x1).bind fun g3 => bif pm_kd q1.2 5 g3 then ((pm_oI (pm_C mX5_isMissing [.ref g3] q1.2)).bind fun q4 => 
      if q4.1 = 0 then (bif pm_kd q4.2 5 g3 then ((pm_oI (pm_C mX5_hasRows [.ref g3, .int x2, .int x3] q4.2)).bind fun q5 => 
        if q5.1 = 0 then (some (.long pm_BAD, q5.2))
        else ((pm_gR q5.2 5 3 g3).bind fun g6 => (pm_aI q5.2 g6 ((9 * x2) + x3)).bind fun g7 => some (.long g7.toInt64, q5.2))) else none)
      else (some (.long pm_NO, q4.2))) else none) := (pm_xeqC mX6_chance c_X6_chance d_X6_chance rfl rfl 400 _ M).trans rfl
set_option maxRecDepth 100000 in
set_option maxHeartbeats 4000000 in
theorem e_X6_swap (M : pm_M) (x0 : Nat) (x1 : Int32) (x2 : Int32) (x3 : Int32) (x4 : Int32) : pm_C mX6_swap [.ref x0, .int x1, .int x2, .int x3, .int x4] M = (pm_oI (pm_C mX6_isTable [.int x1] M)).bind fun q1 => 
    if q1.1 = 0 then (some (.long pm_BAD, q1.2))
    else ((pm_gR q1.2 6 0 x0).bind fun g2 => (pm_aR q1.2 g2 x1).bind fun g3 => bif pm_kd q1.2 5 g3 then ((pm_oI (pm_C mX5_isMissing [.ref g3] q1.2)).bind fun q4 => 
      if q4.1 = 0 then (
        if x2 < 0 then (some (.long pm_BAD, q4.2))
        else (
          if x2 < 6 then ((pm_gI q4.2 5 0 g3).bind fun g5 => 
            if g5 ≤ (pm_rem x2 3) then (some (.long pm_BAD, q4.2))
            else (bif pm_kd q4.2 5 g3 then ((pm_oI (pm_C mX5_isAnswer [.ref g3, .int x3] q4.2)).bind fun q6 => 
              if q6.1 = 0 then (some (.long pm_BAD, q6.2))
              else (bif pm_kd q6.2 5 g3 then ((pm_oI (pm_C mX5_isAnswer [.ref g3, .int x4] q6.2)).bind fun q7 => 
                if q7.1 = 0 then (some (.long pm_BAD, q7.2))
                else (bif pm_kd q7.2 6 x0 then ((pm_oR (pm_C mX6_changing [.ref x0, .int x1] q7.2)).bind fun q8 => bif pm_kd q8.2 5 q8.1 then ((pm_oV (pm_C mX5_exchangeAnswers [.ref q8.1, .int (x2 / 3), .int (pm_rem x2 3), .int x3, .int x4] q8.2)).bind fun m9 => some (.long 0, m9)) else none) else none)) else none)) else none))
          else (some (.long pm_BAD, q4.2))))
      else (some (.long pm_NO, q4.2))) else none) := (pm_xeqC mX6_swap c_X6_swap d_X6_swap rfl rfl 400 _ M).trans rfl
set_option maxRecDepth 100000 in
set_option maxHeartbeats 4000000 in
theorem e_X6_turn (M : pm_M) (x0 : Nat) (x1 : Int32) (x2 : Int32) : pm_C mX6_turn [.ref x0, .int x1, .int x2] M = (pm_oI (pm_C mX6_isTable [.int x1] M)).bind fun q1 => 
    if q1.1 = 0 then (some (.long pm_BAD, q1.2))
    else ((pm_gR q1.2 6 0 x0).bind fun g2 => (pm_aR q1.2 g2 x1).bind fun g3 => bif pm_kd q1.2 5 g3 then ((pm_oI (pm_C mX5_isMissing [.ref g3] q1.2)).bind fun q4 => 
      if q4.1 = 0 then (
        if x2 < 0 then (some (.long pm_BAD, q4.2))
        else (
          if x2 ≤ 2 then (bif pm_kd q4.2 6 x0 then ((pm_oR (pm_C mX6_changing [.ref x0, .int x1] q4.2)).bind fun q5 => 
            if x2 = 0 then (bif pm_kd q5.2 5 q5.1 then ((pm_oV (pm_C mX5_exchangePeople [.ref q5.1] q5.2)).bind fun m6 => some (.long 0, m6)) else none)
            else (bif pm_kd q5.2 5 q5.1 then ((pm_oV (pm_C mX5_reverseQuestions [.ref q5.1, .int (x2 - 1)] q5.2)).bind fun m7 => some (.long 0, m7)) else none)) else none)
          else (some (.long pm_BAD, q4.2))))
      else (some (.long pm_NO, q4.2))) else none) := (pm_xeqC mX6_turn c_X6_turn d_X6_turn rfl rfl 400 _ M).trans rfl
set_option maxRecDepth 100000 in
set_option maxHeartbeats 4000000 in
theorem e_X6_same (M : pm_M) (x0 : Nat) (x1 : Int32) (x2 : Int32) : pm_C mX6_same [.ref x0, .int x1, .int x2] M = (pm_oI (pm_C mX6_isTable [.int x1] M)).bind fun q1 => 
    if q1.1 = 0 then (some (.long pm_BAD, q1.2))
    else ((pm_oI (pm_C mX6_isTable [.int x2] q1.2)).bind fun q2 => 
      if q2.1 = 0 then (some (.long pm_BAD, q2.2))
      else ((pm_gR q2.2 6 0 x0).bind fun g3 => (pm_aR q2.2 g3 x1).bind fun g4 => bif pm_kd q2.2 5 g4 then ((pm_oI (pm_C mX5_isMissing [.ref g4] q2.2)).bind fun q5 => 
        if q5.1 = 0 then ((pm_gR q5.2 6 0 x0).bind fun g6 => (pm_aR q5.2 g6 x2).bind fun g7 => bif pm_kd q5.2 5 g7 then ((pm_oI (pm_C mX5_isMissing [.ref g7] q5.2)).bind fun q8 => 
          if q8.1 = 0 then ((pm_gR q8.2 6 0 x0).bind fun g9 => (pm_aR q8.2 g9 x1).bind fun g10 => (pm_gR q8.2 6 0 x0).bind fun g11 => (pm_aR q8.2 g11 x2).bind fun g12 => bif pm_kd q8.2 5 g10 then ((pm_oI (pm_C mX5_hasChancesOf [.ref g10, .ref g12] q8.2)).bind fun q13 => 
            if q13.1 = 0 then (some (.long 0, q13.2))
            else (some (.long 1, q13.2))) else none)
          else (some (.long pm_NO, q8.2))) else none)
        else (some (.long pm_NO, q5.2))) else none)) := (pm_xeqC mX6_same c_X6_same d_X6_same rfl rfl 400 _ M).trans rfl
set_option maxRecDepth 100000 in
set_option maxHeartbeats 4000000 in
theorem e_X6_isOf (M : pm_M) (x0 : Nat) (x1 : Int32) (x2 : Int32) : pm_C mX6_isOf [.ref x0, .int x1, .int x2] M = (pm_oI (pm_C mX6_isTable [.int x1] M)).bind fun q1 => 
    if q1.1 = 0 then (some (.long pm_BAD, q1.2))
    else (
      if x2 < 0 then (some (.long pm_BAD, q1.2))
      else (
        if x2 ≤ 4 then ((pm_gR q1.2 6 0 x0).bind fun g2 => (pm_aR q1.2 g2 x1).bind fun g3 => bif pm_kd q1.2 5 g3 then ((pm_oI (pm_C mX5_isMissing [.ref g3] q1.2)).bind fun q4 => 
          if q4.1 = 0 then (
            if x2 = 0 then (some (.long 1, q4.2)) else
            if x2 = 1 then (bif pm_kd q4.2 5 g3 then ((pm_oI (pm_C mX5_isProper [.ref g3] q4.2)).bind fun q5 => 
                if q5.1 = 0 then (some (.long 0, q5.2))
                else (some (.long 1, q5.2))) else none) else
            if x2 = 2 then (bif pm_kd q4.2 5 g3 then ((pm_oI (pm_C mX5_isSilent [.ref g3] q4.2)).bind fun q6 => 
                if q6.1 = 0 then (some (.long 0, q6.2))
                else (some (.long 1, q6.2))) else none) else
            if x2 = 3 then ((pm_oL (pm_C mX6_localAnswer [.ref g3] q4.2)).bind fun q7 => some (.long q7.1, q7.2)) else
            (bif pm_kd q4.2 5 g3 then ((pm_oI (pm_C mX5_sureNumber [.ref g3] q4.2)).bind fun q8 => 
                if q8.1 < 0 then (some (.long 0, q8.2))
                else (some (.long 1, q8.2))) else none))
          else (some (.long pm_NO, q4.2))) else none)
        else (some (.long pm_BAD, q1.2)))) := (pm_xeqC mX6_isOf c_X6_isOf d_X6_isOf rfl rfl 400 _ M).trans rfl
set_option maxRecDepth 100000 in
set_option maxHeartbeats 4000000 in
theorem e_X6_who (M : pm_M) (x0 : Nat) (x1 : Int32) : pm_C mX6_who [.ref x0, .int x1] M = (pm_oI (pm_C mX6_isTable [.int x1] M)).bind fun q1 => 
    if q1.1 = 0 then (some (.long pm_BAD, q1.2))
    else ((pm_gR q1.2 6 0 x0).bind fun g2 => (pm_aR q1.2 g2 x1).bind fun g3 => bif pm_kd q1.2 5 g3 then ((pm_oI (pm_C mX5_isMissing [.ref g3] q1.2)).bind fun q4 => 
      if q4.1 = 0 then (bif pm_kd q4.2 5 g3 then ((pm_oI (pm_C mX5_isProper [.ref g3] q4.2)).bind fun q5 => 
        if q5.1 = 0 then (some (.long pm_NO, q5.2))
        else (bif pm_kd q5.2 5 g3 then ((pm_oI (pm_C mX5_firstThatShows [.ref g3] q5.2)).bind fun q6 => 
          if 0 ≤ q6.1 then (some (.long (q6.1).toInt64, q6.2))
          else (some (.long pm_NONE, q6.2))) else none)) else none)
      else (some (.long pm_NO, q4.2))) else none) := (pm_xeqC mX6_who c_X6_who d_X6_who rfl rfl 400 _ M).trans rfl
set_option maxRecDepth 100000 in
set_option maxHeartbeats 4000000 in
theorem e_X6_number (M : pm_M) (x0 : Nat) (x1 : Int32) : pm_C mX6_number [.ref x0, .int x1] M = (pm_oI (pm_C mX6_isTable [.int x1] M)).bind fun q1 => 
    if q1.1 = 0 then (some (.long pm_BAD, q1.2))
    else ((pm_gR q1.2 6 0 x0).bind fun g2 => (pm_aR q1.2 g2 x1).bind fun g3 => bif pm_kd q1.2 5 g3 then ((pm_oI (pm_C mX5_isMissing [.ref g3] q1.2)).bind fun q4 => 
      if q4.1 = 0 then (bif pm_kd q4.2 5 g3 then ((pm_oI (pm_C mX5_sureNumber [.ref g3] q4.2)).bind fun q5 => 
        if 0 ≤ q5.1 then (some (.long (q5.1).toInt64, q5.2))
        else (some (.long pm_NONE, q5.2))) else none)
      else (some (.long pm_NO, q4.2))) else none) := (pm_xeqC mX6_number c_X6_number d_X6_number rfl rfl 400 _ M).trans rfl
set_option maxRecDepth 100000 in
set_option maxHeartbeats 4000000 in
theorem e_X6_law (M : pm_M) (x0 : Nat) (x1 : Int32) (x2 : Int32) : pm_C mX6_law [.ref x0, .int x1, .int x2] M = (pm_oI (pm_C mX6_isTable [.int x1] M)).bind fun q1 => 
    if q1.1 = 0 then (some (.long pm_BAD, q1.2))
    else (
      if x2 < 0 then (some (.long pm_BAD, q1.2))
      else (
        if x2 < 8 then ((pm_gR q1.2 6 0 x0).bind fun g2 => (pm_aR q1.2 g2 x1).bind fun g3 => bif pm_kd q1.2 5 g3 then ((pm_oI (pm_C mX5_isTwoByTwo [.ref g3] q1.2)).bind fun q4 => 
          if q4.1 = 0 then (some (.long pm_NO, q4.2))
          else (bif pm_kd q4.2 5 g3 then ((pm_oI (pm_C mX5_isProper [.ref g3] q4.2)).bind fun q5 => 
            if q5.1 = 0 then (some (.long pm_NO, q5.2))
            else (bif pm_kd q5.2 5 g3 then ((pm_oL (pm_C mX5_cornerLaw [.ref g3, .int x2] q5.2)).bind fun q6 => some (.long q6.1, q6.2)) else none)) else none)) else none)
        else (some (.long pm_BAD, q1.2)))) := (pm_xeqC mX6_law c_X6_law d_X6_law rfl rfl 400 _ M).trans rfl
set_option maxRecDepth 100000 in
set_option maxHeartbeats 4000000 in
theorem e_X6_broken (M : pm_M) (x0 : Nat) (x1 : Int32) : pm_C mX6_broken [.ref x0, .int x1] M = (pm_oI (pm_C mX6_isTable [.int x1] M)).bind fun q1 => 
    if q1.1 = 0 then (some (.long pm_BAD, q1.2))
    else ((pm_gR q1.2 6 0 x0).bind fun g2 => (pm_aR q1.2 g2 x1).bind fun g3 => bif pm_kd q1.2 5 g3 then ((pm_oI (pm_C mX5_isTwoByTwo [.ref g3] q1.2)).bind fun q4 => 
      if q4.1 = 0 then (some (.long pm_NO, q4.2))
      else (bif pm_kd q4.2 5 g3 then ((pm_oI (pm_C mX5_isSilent [.ref g3] q4.2)).bind fun q5 => 
        if q5.1 = 0 then (some (.long pm_NO, q5.2))
        else (bif pm_kd q5.2 5 g3 then ((pm_oI (pm_C mX5_greatestCornerLaw [.ref g3] q5.2)).bind fun q6 => bif pm_kd q6.2 5 g3 then ((pm_oL (pm_C mX5_cornerLaw [.ref g3, .int q6.1] q6.2)).bind fun q7 => (pm_gI q7.2 5 2 g3).bind fun g8 => 
          if (lg_cmp q7.1 (2 * g8.toInt64)) ≤ 0 then (some (.long pm_NONE, q7.2))
          else (some (.long (q6.1).toInt64, q7.2))) else none) else none)) else none)) else none) := (pm_xeqC mX6_broken c_X6_broken d_X6_broken rfl rfl 400 _ M).trans rfl
set_option maxRecDepth 100000 in
set_option maxHeartbeats 4000000 in
theorem e_X6_near (M : pm_M) (x0 : Nat) (x1 : Int32) (x2 : Int32) (x3 : Int32) : pm_C mX6_near [.ref x0, .int x1, .int x2, .int x3] M = (pm_oI (pm_C mX6_isTable [.int x1] M)).bind fun q1 => 
    if q1.1 = 0 then (some (.long pm_BAD, q1.2))
    else (
      if x2 < 0 then (some (.long pm_BAD, q1.2))
      else (
        if 1 < x2 then (some (.long pm_BAD, q1.2))
        else ((pm_oI (pm_C mX6_isPart [.int x3] q1.2)).bind fun q2 => 
          if q2.1 = 0 then (some (.long pm_BAD, q2.2))
          else ((pm_gR q2.2 6 0 x0).bind fun g3 => (pm_aR q2.2 g3 x1).bind fun g4 => bif pm_kd q2.2 5 g4 then ((pm_oI (pm_C mX5_isTwoByTwo [.ref g4] q2.2)).bind fun q5 => 
            if q5.1 = 0 then (some (.long pm_NO, q5.2))
            else (bif pm_kd q5.2 5 g4 then ((pm_oI (pm_C mX5_isSilent [.ref g4] q5.2)).bind fun q6 => 
              if q6.1 = 0 then (some (.long pm_NO, q6.2))
              else (bif pm_kd q6.2 5 g4 then ((pm_oI (pm_C mX5_greatestCornerLaw [.ref g4] q6.2)).bind fun q7 => bif pm_kd q7.2 5 g4 then ((pm_oL (pm_C mX5_cornerLaw [.ref g4, .int q7.1] q7.2)).bind fun q8 => (pm_gI q8.2 5 2 g4).bind fun g9 => 
                if 0 < (lg_cmp q8.1 (2 * g9.toInt64)) then (
                  if x2 = 0 then ((pm_oL (pm_C mX6_fraction [.long ((2 * (2 * g9.toInt64)) - q8.1), .long (2 * g9.toInt64), .int x3] q8.2)).bind fun q10 => some (.long q10.1, q10.2))
                  else ((pm_oL (pm_C mX6_fraction [.long (q8.1 - (2 * g9.toInt64)), .long q8.1, .int x3] q8.2)).bind fun q11 => some (.long q11.1, q11.2)))
                else ((pm_oL (pm_C mX6_fraction [.long ((1 - x2)).toInt64, .long 1, .int x3] q8.2)).bind fun q12 => some (.long q12.1, q12.2))) else none) else none)) else none)) else none)))) := (pm_xeqC mX6_near c_X6_near d_X6_near rfl rfl 400 _ M).trans rfl
set_option maxRecDepth 100000 in
set_option maxHeartbeats 4000000 in
theorem e_X6_begin (M : pm_M) (x0 : Nat) (x1 : Int32) (x2 : Int32) : pm_C mX6_begin [.ref x0, .int x1, .int x2] M = (pm_oI (pm_C mX6_isShape [.int x1, .int x2] M)).bind fun q1 => 
    if q1.1 = 0 then (some (.long pm_BAD, q1.2))
    else ((pm_gR q1.2 6 2 x0).bind fun g2 => bif pm_kd q1.2 3 g2 then ((pm_oV (pm_C mX3_restart [.ref g2, .int x1, .int x2] q1.2)).bind fun m3 => (pm_gR m3 6 3 x0).bind fun g4 => bif pm_kd m3 4 g4 then ((pm_oV (pm_C mX4_drop [.ref g4] m3)).bind fun m5 => some (.long 0, m5)) else none) else none) := (pm_xeqC mX6_begin c_X6_begin d_X6_begin rfl rfl 400 _ M).trans rfl
set_option maxRecDepth 100000 in
set_option maxHeartbeats 4000000 in
theorem e_X6_weigh (M : pm_M) (x0 : Nat) (x1 : Int32) (x2 : Int32) (x3 : Int32) : pm_C mX6_weigh [.ref x0, .int x1, .int x2, .int x3] M = (pm_gR M 6 2 x0).bind fun g1 => bif pm_kd M 3 g1 then ((pm_oI (pm_C mX3_hasRows [.ref g1, .int x1, .int x2] M)).bind fun q2 => 
    if q2.1 = 0 then (some (.long pm_BAD, q2.2))
    else (
      if x3 < (-1000) then (some (.long pm_BAD, q2.2))
      else (
        if x3 ≤ 1000 then ((pm_gR q2.2 6 2 x0).bind fun g3 => (pm_gR q2.2 3 2 g3).bind fun g4 => (pm_aI q2.2 g4 ((9 * x1) + x2)).bind fun g5 => (pm_gR q2.2 6 2 x0).bind fun g6 => (pm_gR q2.2 3 2 g6).bind fun g7 => (pm_sI q2.2 g7 ((9 * x1) + x2) x3).bind fun m8 => some (.long g5.toInt64, m8))
        else (some (.long pm_BAD, q2.2))))) else none := (pm_xeqC mX6_weigh c_X6_weigh d_X6_weigh rfl rfl 400 _ M).trans rfl
set_option maxRecDepth 100000 in
set_option maxHeartbeats 4000000 in
theorem e_X6_take (M : pm_M) (x0 : Nat) (x1 : Int32) : pm_C mX6_take [.ref x0, .int x1] M = 
    if x1 < 0 then (some (.long pm_BAD, M))
    else (
      if x1 < 8 then ((pm_gR M 6 2 x0).bind fun g1 => bif pm_kd M 3 g1 then ((pm_oV (pm_C mX3_becomeCornerLaw [.ref g1, .int x1] M)).bind fun m2 => (pm_gR m2 6 3 x0).bind fun g3 => bif pm_kd m2 4 g3 then ((pm_oV (pm_C mX4_drop [.ref g3] m2)).bind fun m4 => some (.long 0, m4)) else none) else none)
      else (some (.long pm_BAD, M))) := (pm_xeqC mX6_take c_X6_take d_X6_take rfl rfl 400 _ M).trans rfl
set_option maxRecDepth 100000 in
set_option maxHeartbeats 4000000 in
theorem e_X6_value (M : pm_M) (x0 : Nat) (x1 : Int32) (x2 : Int32) : pm_C mX6_value [.ref x0, .int x1, .int x2] M = (pm_oI (pm_C mX6_isTable [.int x1] M)).bind fun q1 => 
    if q1.1 = 0 then (some (.long pm_BAD, q1.2))
    else ((pm_oI (pm_C mX6_isPart [.int x2] q1.2)).bind fun q2 => 
      if q2.1 = 0 then (some (.long pm_BAD, q2.2))
      else ((pm_gR q2.2 6 0 x0).bind fun g3 => (pm_aR q2.2 g3 x1).bind fun g4 => (pm_gR q2.2 6 2 x0).bind fun g5 => bif pm_kd q2.2 3 g5 then ((pm_oI (pm_C mX3_fits [.ref g5, .ref g4] q2.2)).bind fun q6 => 
        if q6.1 = 0 then (some (.long pm_NO, q6.2))
        else ((pm_gR q6.2 6 2 x0).bind fun g7 => bif pm_kd q6.2 3 g7 then ((pm_oL (pm_C mX3_sumAt [.ref g7, .ref g4] q6.2)).bind fun q8 => (pm_gI q8.2 5 2 g4).bind fun g9 => (pm_oL (pm_C mX6_fraction [.long q8.1, .long g9.toInt64, .int x2] q8.2)).bind fun q10 => some (.long q10.1, q10.2)) else none)) else none)) := (pm_xeqC mX6_value c_X6_value d_X6_value rfl rfl 400 _ M).trans rfl
set_option maxRecDepth 100000 in
set_option maxHeartbeats 4000000 in
theorem e_X6_bound (M : pm_M) (x0 : Nat) (x1 : Int32) : pm_C mX6_bound [.ref x0, .int x1] M = 
    if x1 < 0 then (some (.long pm_BAD, M))
    else (
      if x1 ≤ 3 then ((pm_gR M 6 2 x0).bind fun g1 => (pm_gR M 6 2 x0).bind fun g2 => bif pm_kd M 3 g2 then ((pm_oI (pm_C mX3_allQuestions [.ref g2] M)).bind fun q3 => bif pm_kd q3.2 3 g1 then ((pm_oV (pm_C mX3_survey [.ref g1, .int q3.1] q3.2)).bind fun m4 => 
        if x1 = 0 then ((pm_gR m4 6 2 x0).bind fun g5 => (pm_gI m4 3 3 g5).bind fun g6 => some (.long g6.toInt64, m4)) else
        if x1 = 1 then ((pm_gR m4 6 2 x0).bind fun g7 => (pm_gI m4 3 4 g7).bind fun g8 => some (.long g8.toInt64, m4)) else
        if x1 = 2 then ((pm_gR m4 6 2 x0).bind fun g9 => (pm_gI m4 3 5 g9).bind fun g10 => some (.long g10.toInt64, m4)) else
        ((pm_gR m4 6 2 x0).bind fun g11 => (pm_gI m4 3 6 g11).bind fun g12 => some (.long g12.toInt64, m4))) else none) else none)
      else (some (.long pm_BAD, M))) := (pm_xeqC mX6_bound c_X6_bound d_X6_bound rfl rfl 400 _ M).trans rfl
set_option maxRecDepth 100000 in
set_option maxHeartbeats 4000000 in
theorem e_X6_breaks (M : pm_M) (x0 : Nat) (x1 : Int32) : pm_C mX6_breaks [.ref x0, .int x1] M = (pm_oI (pm_C mX6_isTable [.int x1] M)).bind fun q1 => 
    if q1.1 = 0 then (some (.long pm_BAD, q1.2))
    else ((pm_gR q1.2 6 0 x0).bind fun g2 => (pm_aR q1.2 g2 x1).bind fun g3 => (pm_gR q1.2 6 2 x0).bind fun g4 => bif pm_kd q1.2 3 g4 then ((pm_oI (pm_C mX3_fits [.ref g4, .ref g3] q1.2)).bind fun q5 => 
      if q5.1 = 0 then (some (.long pm_NO, q5.2))
      else ((pm_gR q5.2 6 2 x0).bind fun g6 => (pm_gR q5.2 6 2 x0).bind fun g7 => bif pm_kd q5.2 3 g7 then ((pm_oI (pm_C mX3_allQuestions [.ref g7] q5.2)).bind fun q8 => bif pm_kd q8.2 3 g6 then ((pm_oV (pm_C mX3_survey [.ref g6, .int q8.1] q8.2)).bind fun m9 => (pm_gR m9 6 2 x0).bind fun g10 => bif pm_kd m9 3 g10 then ((pm_oL (pm_C mX3_sumAt [.ref g10, .ref g3] m9)).bind fun q11 => (pm_gR q11.2 6 2 x0).bind fun g12 => (pm_gI q11.2 3 3 g12).bind fun g13 => (pm_gI q11.2 5 2 g3).bind fun g14 => 
        if (lg_cmp q11.1 (g13.toInt64 * g14.toInt64)) ≤ 0 then (some (.long 0, q11.2))
        else (some (.long 1, q11.2))) else none) else none) else none)) else none) := (pm_xeqC mX6_breaks c_X6_breaks d_X6_breaks rfl rfl 400 _ M).trans rfl
set_option maxRecDepth 100000 in
set_option maxHeartbeats 4000000 in
theorem e_X6_best (M : pm_M) (x0 : Nat) (x1 : Int32) : pm_C mX6_best [.ref x0, .int x1] M = 
    if x1 < 0 then (some (.long pm_BAD, M))
    else (
      if x1 ≤ 3 then (
        if x1 = 2 then ((pm_gR M 6 2 x0).bind fun g1 => bif pm_kd M 3 g1 then ((pm_oL (pm_C mX3_bestTold [.ref g1] M)).bind fun q2 => some (.long q2.1, q2.2)) else none)
        else ((pm_gR M 6 2 x0).bind fun g3 => bif pm_kd M 3 g3 then ((pm_oI (pm_C mX3_isTwoByTwo [.ref g3] M)).bind fun q4 => 
          if q4.1 = 0 then (some (.long pm_NO, q4.2))
          else (
            if x1 = 3 then ((pm_gR q4.2 6 2 x0).bind fun g5 => bif pm_kd q4.2 3 g5 then ((pm_oI (pm_C mX3_allWeightsWithin [.ref g5, .int 0, .int 100] q4.2)).bind fun q6 => 
              if q6.1 = 0 then (some (.long pm_NO, q6.2))
              else ((pm_gR q6.2 6 5 x0).bind fun g7 => (pm_gR q6.2 6 2 x0).bind fun g8 => bif pm_kd q6.2 0 g7 then ((pm_oL (pm_C mX0_greatestSum [.ref g7, .ref g8] q6.2)).bind fun q9 => some (.long q9.1, q9.2)) else none)) else none)
            else (bif pm_kd q4.2 6 x0 then ((pm_oI (pm_C mX6_bestCorner [.ref x0] q4.2)).bind fun q10 => 
              if x1 = 0 then (bif pm_kd q10.2 6 x0 then ((pm_oL (pm_C mX6_twiceAtCorner [.ref x0, .int q10.1] q10.2)).bind fun q11 => some (.long q11.1, q11.2)) else none)
              else (some (.long (q10.1).toInt64, q10.2))) else none))) else none))
      else (some (.long pm_BAD, M))) := (pm_xeqC mX6_best c_X6_best d_X6_best rfl rfl 400 _ M).trans rfl
set_option maxRecDepth 100000 in
set_option maxHeartbeats 4000000 in
theorem e_X6_share (M : pm_M) (x0 : Nat) (x1 : Int32) (x2 : Int32) : pm_C mX6_share [.ref x0, .int x1, .int x2] M = 
    if x1 < 0 then (some (.long pm_BAD, M))
    else ((pm_gR M 6 2 x0).bind fun g1 => bif pm_kd M 3 g1 then ((pm_oI (pm_C mX3_sures [.ref g1] M)).bind fun q2 => 
      if q2.1 ≤ x1 then (some (.long pm_BAD, q2.2))
      else (
        if x2 < 0 then (some (.long pm_BAD, q2.2))
        else (
          if x2 ≤ 1000000 then ((pm_gR q2.2 6 3 x0).bind fun g3 => bif pm_kd q2.2 4 g3 then ((pm_oI (pm_C mX4_find [.ref g3, .int x1] q2.2)).bind fun q4 => 
            if 0 ≤ q4.1 then (pm_res mX6_share 62 [(0, .ref x0), (1, .int x1), (2, .int x2), (3, .int q4.1)] [] q4.2)
            else (
              if x2 = 0 then (pm_res mX6_share 62 [(0, .ref x0), (1, .int x1), (2, .int x2), (3, .int q4.1)] [] q4.2)
              else ((pm_gR q4.2 6 3 x0).bind fun g5 => (pm_gI q4.2 4 2 g5).bind fun g6 => 
                if g6 < 30 then (pm_res mX6_share 62 [(0, .ref x0), (1, .int x1), (2, .int x2), (3, .int q4.1)] [] q4.2)
                else (some (.long pm_FULL, q4.2))))) else none)
          else (some (.long pm_BAD, q2.2))))) else none) := (pm_xeqC mX6_share c_X6_share d_X6_share rfl rfl 400 _ M).trans rfl
set_option maxRecDepth 100000 in
set_option maxHeartbeats 4000000 in
theorem e_X6_share_62 (M : pm_M) (x0 : Nat) (x1 : Int32) (x2 : Int32) (x3 : Int32) : pm_res mX6_share 62 [(0, .ref x0), (1, .int x1), (2, .int x2), (3, .int x3)] [] M = 
    if 0 ≤ x3 then ((pm_gR M 6 3 x0).bind fun g1 => (pm_gR M 4 1 g1).bind fun g2 => (pm_aI M g2 x3).bind fun g3 => pm_res mX6_share 79 [(0, .ref x0), (1, .int x1), (2, .int x2), (3, .int x3)] [.int g3] M)
    else (pm_res mX6_share 79 [(0, .ref x0), (1, .int x1), (2, .int x2), (3, .int x3)] [.int 0] M) := (pm_xeq mX6_share c_X6_share d_X6_share rfl rfl 400 62 _ _ M).trans rfl
set_option maxRecDepth 100000 in
set_option maxHeartbeats 4000000 in
theorem e_X6_share_79 (M : pm_M) (x0 : Nat) (x1 : Int32) (x2 : Int32) (x3 : Int32) (y0 : Int32) : pm_res mX6_share 79 [(0, .ref x0), (1, .int x1), (2, .int x2), (3, .int x3)] [.int y0] M = (pm_gR M 6 3 x0).bind fun g1 => bif pm_kd M 4 g1 then ((pm_oV (pm_C mX4_put [.ref g1, .int x3, .int x1, .int x2] M)).bind fun m2 => some (.long y0.toInt64, m2)) else none := (pm_xeq mX6_share c_X6_share d_X6_share rfl rfl 400 79 _ _ M).trans rfl
set_option maxRecDepth 100000 in
set_option maxHeartbeats 4000000 in
theorem e_X6_mixed (M : pm_M) (x0 : Nat) (x1 : Int32) : pm_C mX6_mixed [.ref x0, .int x1] M = (pm_oI (pm_C mX6_isTable [.int x1] M)).bind fun q1 => 
    if q1.1 = 0 then (some (.long pm_BAD, q1.2))
    else ((pm_gR q1.2 6 3 x0).bind fun g2 => (pm_gI q1.2 4 2 g2).bind fun g3 => 
      if g3 = 0 then (some (.long pm_NO, q1.2))
      else ((pm_gR q1.2 6 4 x0).bind fun g4 => (pm_gR q1.2 6 2 x0).bind fun g5 => (pm_gR q1.2 6 3 x0).bind fun g6 => bif pm_kd q1.2 1 g4 then ((pm_oV (pm_C mX1_startMix [.ref g4, .ref g5, .ref g6] q1.2)).bind fun m7 => bif pm_kd m7 6 x0 then ((pm_oL (pm_C mX6_settle [.ref x0, .int x1] m7)).bind fun q8 => some (.long q8.1, q8.2)) else none) else none)) := (pm_xeqC mX6_mixed c_X6_mixed d_X6_mixed rfl rfl 400 _ M).trans rfl
set_option maxRecDepth 100000 in
set_option maxHeartbeats 4000000 in
theorem e_X6_makes (M : pm_M) (x0 : Nat) (x1 : Int32) : pm_C mX6_makes [.ref x0, .int x1] M = (pm_oI (pm_C mX6_isTable [.int x1] M)).bind fun q1 => 
    if q1.1 = 0 then (some (.long pm_BAD, q1.2))
    else ((pm_gR q1.2 6 0 x0).bind fun g2 => (pm_aR q1.2 g2 x1).bind fun g3 => (pm_gR q1.2 6 2 x0).bind fun g4 => bif pm_kd q1.2 3 g4 then ((pm_oI (pm_C mX3_fits [.ref g4, .ref g3] q1.2)).bind fun q5 => 
      if q5.1 = 0 then (some (.long pm_NO, q5.2))
      else ((pm_gR q5.2 6 3 x0).bind fun g6 => (pm_gI q5.2 4 2 g6).bind fun g7 => 
        if g7 = 0 then (some (.long pm_NO, q5.2))
        else ((pm_gR q5.2 6 4 x0).bind fun g8 => (pm_gR q5.2 6 2 x0).bind fun g9 => (pm_gR q5.2 6 3 x0).bind fun g10 => bif pm_kd q5.2 1 g8 then ((pm_oV (pm_C mX1_startMix [.ref g8, .ref g9, .ref g10] q5.2)).bind fun m11 => (pm_gR m11 6 4 x0).bind fun g12 => bif pm_kd m11 1 g12 then ((pm_oI (pm_C mX1_firstOtherChance [.ref g12, .ref g3] m11)).bind fun q13 => 
          if 0 ≤ q13.1 then (some (.long ((1 + q13.1)).toInt64, q13.2))
          else (some (.long 0, q13.2))) else none) else none))) else none) := (pm_xeqC mX6_makes c_X6_makes d_X6_makes rfl rfl 400 _ M).trans rfl
set_option maxRecDepth 100000 in
set_option maxHeartbeats 4000000 in
theorem e_X6_wire (M : pm_M) (x0 : Nat) (x1 : Int32) (x2 : Int32) (x3 : Int32) : pm_C mX6_wire [.ref x0, .int x1, .int x2, .int x3] M = (pm_oI (pm_C mX6_isTable [.int x1] M)).bind fun q1 => 
    if q1.1 = 0 then (some (.long pm_BAD, q1.2))
    else ((pm_oI (pm_C mX6_isTable [.int x2] q1.2)).bind fun q2 => 
      if q2.1 = 0 then (some (.long pm_BAD, q2.2))
      else ((pm_oI (pm_C mX6_isTable [.int x3] q2.2)).bind fun q3 => 
        if q3.1 = 0 then (some (.long pm_BAD, q3.2))
        else (bif pm_kd q3.2 6 x0 then ((pm_oI (pm_C mX6_areProper [.ref x0, .int x1, .int x2] q3.2)).bind fun q4 => 
          if q4.1 = 0 then (some (.long pm_NO, q4.2))
          else ((pm_gR q4.2 6 0 x0).bind fun g5 => (pm_aR q4.2 g5 x1).bind fun g6 => (pm_gI q4.2 5 1 g6).bind fun g7 => (pm_gR q4.2 6 0 x0).bind fun g8 => (pm_aR q4.2 g8 x2).bind fun g9 => (pm_gI q4.2 5 0 g9).bind fun g10 => 
            if g7 = g10 then ((pm_gR q4.2 6 4 x0).bind fun g11 => (pm_gR q4.2 6 0 x0).bind fun g12 => (pm_aR q4.2 g12 x1).bind fun g13 => (pm_gR q4.2 6 0 x0).bind fun g14 => (pm_aR q4.2 g14 x2).bind fun g15 => bif pm_kd q4.2 1 g11 then ((pm_oV (pm_C mX1_startWired [.ref g11, .ref g13, .ref g15] q4.2)).bind fun m16 => bif pm_kd m16 6 x0 then ((pm_oL (pm_C mX6_settle [.ref x0, .int x3] m16)).bind fun q17 => some (.long q17.1, q17.2)) else none) else none)
            else (some (.long pm_NO, q4.2)))) else none))) := (pm_xeqC mX6_wire c_X6_wire d_X6_wire rfl rfl 400 _ M).trans rfl
set_option maxRecDepth 100000 in
set_option maxHeartbeats 4000000 in
theorem e_X6_blend (M : pm_M) (x0 : Nat) (x1 : Int32) (x2 : Int32) (x3 : Int32) (x4 : Int32) : pm_C mX6_blend [.ref x0, .int x1, .int x2, .int x3, .int x4] M = (pm_oI (pm_C mX6_isTable [.int x1] M)).bind fun q1 => 
    if q1.1 = 0 then (some (.long pm_BAD, q1.2))
    else ((pm_oI (pm_C mX6_isTable [.int x2] q1.2)).bind fun q2 => 
      if q2.1 = 0 then (some (.long pm_BAD, q2.2))
      else ((pm_oI (pm_C mX6_isTable [.int x3] q2.2)).bind fun q3 => 
        if q3.1 = 0 then (some (.long pm_BAD, q3.2))
        else (
          if x4 < 1 then (some (.long pm_BAD, q3.2))
          else (
            if x4 ≤ 1002000 then (bif pm_kd q3.2 6 x0 then ((pm_oI (pm_C mX6_areProper [.ref x0, .int x1, .int x2] q3.2)).bind fun q4 => 
              if q4.1 = 0 then (some (.long pm_NO, q4.2))
              else ((pm_gR q4.2 6 0 x0).bind fun g5 => (pm_aR q4.2 g5 x1).bind fun g6 => (pm_gR q4.2 6 0 x0).bind fun g7 => (pm_aR q4.2 g7 x2).bind fun g8 => bif pm_kd q4.2 5 g6 then ((pm_oI (pm_C mX5_hasShapeOf [.ref g6, .ref g8] q4.2)).bind fun q9 => 
                if q9.1 = 0 then (some (.long pm_NO, q9.2))
                else ((pm_gR q9.2 6 4 x0).bind fun g10 => (pm_gR q9.2 6 0 x0).bind fun g11 => (pm_aR q9.2 g11 x1).bind fun g12 => (pm_gR q9.2 6 0 x0).bind fun g13 => (pm_aR q9.2 g13 x2).bind fun g14 => bif pm_kd q9.2 1 g10 then ((pm_oV (pm_C mX1_startBlended [.ref g10, .ref g12, .ref g14, .int (x4 / 1001), .int (pm_rem x4 1001)] q9.2)).bind fun m15 => bif pm_kd m15 6 x0 then ((pm_oL (pm_C mX6_settle [.ref x0, .int x3] m15)).bind fun q16 => some (.long q16.1, q16.2)) else none) else none)) else none)) else none)
            else (some (.long pm_BAD, q3.2)))))) := (pm_xeqC mX6_blend c_X6_blend d_X6_blend rfl rfl 400 _ M).trans rfl
set_option maxRecDepth 100000 in
set_option maxHeartbeats 4000000 in
theorem e_X6_parity (M : pm_M) (x0 : Nat) (x1 : Int32) (x2 : Int32) (x3 : Int32) : pm_C mX6_parity [.ref x0, .int x1, .int x2, .int x3] M = (pm_oI (pm_C mX6_isTable [.int x1] M)).bind fun q1 => 
    if q1.1 = 0 then (some (.long pm_BAD, q1.2))
    else ((pm_oI (pm_C mX6_isTable [.int x2] q1.2)).bind fun q2 => 
      if q2.1 = 0 then (some (.long pm_BAD, q2.2))
      else ((pm_oI (pm_C mX6_isTable [.int x3] q2.2)).bind fun q3 => 
        if q3.1 = 0 then (some (.long pm_BAD, q3.2))
        else (bif pm_kd q3.2 6 x0 then ((pm_oI (pm_C mX6_areProper [.ref x0, .int x1, .int x2] q3.2)).bind fun q4 => 
          if q4.1 = 0 then (some (.long pm_NO, q4.2))
          else ((pm_gR q4.2 6 0 x0).bind fun g5 => (pm_aR q4.2 g5 x1).bind fun g6 => (pm_gR q4.2 6 0 x0).bind fun g7 => (pm_aR q4.2 g7 x2).bind fun g8 => bif pm_kd q4.2 5 g6 then ((pm_oI (pm_C mX5_hasShapeOf [.ref g6, .ref g8] q4.2)).bind fun q9 => 
            if q9.1 = 0 then (some (.long pm_NO, q9.2))
            else ((pm_gR q9.2 6 0 x0).bind fun g10 => (pm_aR q9.2 g10 x1).bind fun g11 => (pm_gI q9.2 5 1 g11).bind fun g12 => 
              if g12 = 2 then ((pm_gR q9.2 6 4 x0).bind fun g13 => (pm_gR q9.2 6 0 x0).bind fun g14 => (pm_aR q9.2 g14 x1).bind fun g15 => (pm_gR q9.2 6 0 x0).bind fun g16 => (pm_aR q9.2 g16 x2).bind fun g17 => bif pm_kd q9.2 1 g13 then ((pm_oV (pm_C mX1_startParity [.ref g13, .ref g15, .ref g17] q9.2)).bind fun m18 => bif pm_kd m18 6 x0 then ((pm_oL (pm_C mX6_settle [.ref x0, .int x3] m18)).bind fun q19 => some (.long q19.1, q19.2)) else none) else none)
              else (some (.long pm_NO, q9.2)))) else none)) else none))) := (pm_xeqC mX6_parity c_X6_parity d_X6_parity rfl rfl 400 _ M).trans rfl
set_option maxRecDepth 100000 in
set_option maxHeartbeats 4000000 in
theorem e_X6_undo (M : pm_M) (x0 : Nat) : pm_C mX6_undo [.ref x0] M = (pm_gR M 6 1 x0).bind fun g1 => (pm_gI M 2 3 g1).bind fun g2 => 
    if g2 = 0 then (some (.long pm_NO, M))
    else ((pm_gR M 6 1 x0).bind fun g3 => (pm_gR M 6 0 x0).bind fun g4 => bif pm_kd M 2 g3 then ((pm_oV (pm_C mX2_takeBack [.ref g3, .ref g4] M)).bind fun m5 => (pm_gR m5 6 1 x0).bind fun g6 => (pm_gI m5 2 3 g6).bind fun g7 => some (.long g7.toInt64, m5)) else none) := (pm_xeqC mX6_undo c_X6_undo d_X6_undo rfl rfl 400 _ M).trans rfl
set_option maxRecDepth 100000 in
set_option maxHeartbeats 4000000 in
theorem e_X6_count (M : pm_M) (x0 : Nat) (x1 : Int32) : pm_C mX6_count [.ref x0, .int x1] M = 
    if x1 = 0 then (bif pm_kd M 6 x0 then ((pm_oI (pm_C mX6_tablesThere [.ref x0] M)).bind fun q1 => some (.long (q1.1).toInt64, q1.2)) else none) else
    if x1 = 1 then ((pm_gR M 6 3 x0).bind fun g2 => (pm_gI M 4 2 g2).bind fun g3 => some (.long g3.toInt64, M)) else
    if x1 = 2 then ((pm_gR M 6 3 x0).bind fun g4 => bif pm_kd M 4 g4 then ((pm_oL (pm_C mX4_together [.ref g4] M)).bind fun q5 => some (.long q5.1, q5.2)) else none) else
    if x1 = 3 then ((pm_gR M 6 1 x0).bind fun g6 => (pm_gI M 2 3 g6).bind fun g7 => some (.long g7.toInt64, M)) else
    if x1 = 4 then ((pm_gR M 6 2 x0).bind fun g8 => (pm_gR M 3 2 g8).bind fun g9 => (pm_oI (pm_C mX6_countNotZero [.ref g9] M)).bind fun q10 => some (.long (q10.1).toInt64, q10.2)) else
    if x1 = 5 then ((pm_gR M 6 2 x0).bind fun g11 => bif pm_kd M 3 g11 then ((pm_oI (pm_C mX3_sures [.ref g11] M)).bind fun q12 => some (.long (q12.1).toInt64, q12.2)) else none) else
    (some (.long pm_BAD, M)) := (pm_xeqC mX6_count c_X6_count d_X6_count rfl rfl 400 _ M).trans rfl
set_option maxRecDepth 100000 in
set_option maxHeartbeats 4000000 in
theorem e_X6_changing (M : pm_M) (x0 : Nat) (x1 : Int32) : pm_C mX6_changing [.ref x0, .int x1] M = (pm_gR M 6 1 x0).bind fun g1 => (pm_gR M 6 0 x0).bind fun g2 => (pm_aR M g2 x1).bind fun g3 => bif pm_kd M 2 g1 then ((pm_oV (pm_C mX2_keep [.ref g1, .int x1, .ref g3] M)).bind fun m4 => (pm_gR m4 6 0 x0).bind fun g5 => (pm_aR m4 g5 x1).bind fun g6 => some (.ref g6, m4)) else none := (pm_xeqC mX6_changing c_X6_changing d_X6_changing rfl rfl 400 _ M).trans rfl
set_option maxRecDepth 100000 in
set_option maxHeartbeats 4000000 in
theorem e_X6_settle (M : pm_M) (x0 : Nat) (x1 : Int32) : pm_C mX6_settle [.ref x0, .int x1] M = (pm_gR M 6 4 x0).bind fun g1 => bif pm_kd M 1 g1 then ((pm_oV (pm_C mX1_reduce [.ref g1] M)).bind fun m2 => (pm_gR m2 6 4 x0).bind fun g3 => (pm_gL m2 1 2 g3).bind fun g4 => 
    if (lg_cmp g4 1000000) ≤ 0 then ((pm_gR m2 6 4 x0).bind fun g5 => bif pm_kd m2 6 x0 then ((pm_oR (pm_C mX6_changing [.ref x0, .int x1] m2)).bind fun q6 => bif pm_kd q6.2 1 g5 then ((pm_oV (pm_C mX1_putInto [.ref g5, .ref q6.1] q6.2)).bind fun m7 => (pm_gR m7 6 4 x0).bind fun g8 => (pm_gL m7 1 2 g8).bind fun g9 => some (.long g9, m7)) else none) else none)
    else (some (.long pm_FULL, m2))) else none := (pm_xeqC mX6_settle c_X6_settle d_X6_settle rfl rfl 400 _ M).trans rfl
set_option maxRecDepth 100000 in
set_option maxHeartbeats 4000000 in
theorem e_X6_areProper (M : pm_M) (x0 : Nat) (x1 : Int32) (x2 : Int32) : pm_C mX6_areProper [.ref x0, .int x1, .int x2] M = (pm_gR M 6 0 x0).bind fun g1 => (pm_aR M g1 x1).bind fun g2 => bif pm_kd M 5 g2 then ((pm_oI (pm_C mX5_isMissing [.ref g2] M)).bind fun q3 => 
    if q3.1 = 0 then ((pm_gR q3.2 6 0 x0).bind fun g4 => (pm_aR q3.2 g4 x2).bind fun g5 => bif pm_kd q3.2 5 g5 then ((pm_oI (pm_C mX5_isMissing [.ref g5] q3.2)).bind fun q6 => 
      if q6.1 = 0 then ((pm_gR q6.2 6 0 x0).bind fun g7 => (pm_aR q6.2 g7 x1).bind fun g8 => bif pm_kd q6.2 5 g8 then ((pm_oI (pm_C mX5_isProper [.ref g8] q6.2)).bind fun q9 => 
        if q9.1 = 0 then (some (.int 0, q9.2))
        else ((pm_gR q9.2 6 0 x0).bind fun g10 => (pm_aR q9.2 g10 x2).bind fun g11 => bif pm_kd q9.2 5 g11 then ((pm_oI (pm_C mX5_isProper [.ref g11] q9.2)).bind fun q12 => 
          if q12.1 = 0 then (some (.int 0, q12.2))
          else (some (.int 1, q12.2))) else none)) else none)
      else (some (.int 0, q6.2))) else none)
    else (some (.int 0, q3.2))) else none := (pm_xeqC mX6_areProper c_X6_areProper d_X6_areProper rfl rfl 400 _ M).trans rfl
set_option maxRecDepth 100000 in
set_option maxHeartbeats 4000000 in
theorem e_X6_tablesThere (M : pm_M) (x0 : Nat) : pm_C mX6_tablesThere [.ref x0] M = pm_res mX6_tablesThere 4 [(0, .ref x0), (1, .int 0), (2, .int 0)] [] M := (pm_xeqC mX6_tablesThere c_X6_tablesThere d_X6_tablesThere rfl rfl 400 _ M).trans rfl
set_option maxRecDepth 100000 in
set_option maxHeartbeats 4000000 in
theorem e_X6_tablesThere_4 (M : pm_M) (x0 : Nat) (x1 : Int32) (x2 : Int32) : pm_res mX6_tablesThere 4 [(0, .ref x0), (1, .int x1), (2, .int x2)] [] M = 
    if 8 ≤ x2 then (some (.int x1, M))
    else ((pm_gR M 6 0 x0).bind fun g1 => (pm_aR M g1 x2).bind fun g2 => bif pm_kd M 5 g2 then ((pm_oI (pm_C mX5_isMissing [.ref g2] M)).bind fun q3 => 
      if q3.1 = 0 then (pm_res mX6_tablesThere 4 [(0, .ref x0), (1, .int (x1 + 1)), (2, .int (x2 + 1))] [] q3.2)
      else (pm_res mX6_tablesThere 4 [(0, .ref x0), (1, .int x1), (2, .int (x2 + 1))] [] q3.2)) else none) := (pm_xeq mX6_tablesThere c_X6_tablesThere d_X6_tablesThere rfl rfl 400 4 _ _ M).trans rfl
set_option maxRecDepth 100000 in
set_option maxHeartbeats 4000000 in
theorem e_X6_bestCorner (M : pm_M) (x0 : Nat) : pm_C mX6_bestCorner [.ref x0] M = bif pm_kd M 6 x0 then ((pm_oL (pm_C mX6_twiceAtCorner [.ref x0, .int 0] M)).bind fun q1 => pm_res mX6_bestCorner 11 [(0, .ref x0), (1, .int 0), (2, .long q1.1), (4, .int 1)] [] q1.2) else none := (pm_xeqC mX6_bestCorner c_X6_bestCorner d_X6_bestCorner rfl rfl 400 _ M).trans rfl
set_option maxRecDepth 100000 in
set_option maxHeartbeats 4000000 in
theorem e_X6_bestCorner_11 (M : pm_M) (x0 : Nat) (x1 : Int32) (x2 : Int64) (x4 : Int32) : pm_res mX6_bestCorner 11 [(0, .ref x0), (1, .int x1), (2, .long x2), (4, .int x4)] [] M = 
    if 24 ≤ x4 then (some (.int x1, M))
    else (bif pm_kd M 6 x0 then ((pm_oL (pm_C mX6_twiceAtCorner [.ref x0, .int x4] M)).bind fun q1 => 
      if (lg_cmp q1.1 x2) ≤ 0 then (pm_res mX6_bestCorner 11 [(0, .ref x0), (1, .int x1), (2, .long x2), (4, .int (x4 + 1))] [] q1.2)
      else (pm_res mX6_bestCorner 11 [(0, .ref x0), (1, .int x4), (2, .long q1.1), (4, .int (x4 + 1))] [] q1.2)) else none) := (pm_xeq mX6_bestCorner c_X6_bestCorner d_X6_bestCorner rfl rfl 400 11 _ _ M).trans rfl
set_option maxRecDepth 100000 in
set_option maxHeartbeats 4000000 in
theorem e_X6_twiceAtCorner (M : pm_M) (x0 : Nat) (x1 : Int32) : pm_C mX6_twiceAtCorner [.ref x0, .int x1] M = (pm_gR M 6 4 x0).bind fun g1 => bif pm_kd M 1 g1 then ((pm_oV (pm_C mX1_startCorner [.ref g1, .int x1] M)).bind fun m2 => (pm_gR m2 6 4 x0).bind fun g3 => (pm_gL m2 1 2 g3).bind fun g4 => 
    if (lg_cmp g4 1) = 0 then ((pm_gR m2 6 2 x0).bind fun g5 => (pm_gR m2 6 4 x0).bind fun g6 => (pm_gR m2 1 3 g6).bind fun g7 => bif pm_kd m2 3 g5 then ((pm_oL (pm_C mX3_sumOver [.ref g5, .ref g7] m2)).bind fun q8 => some (.long (2 * q8.1), q8.2)) else none)
    else ((pm_gR m2 6 2 x0).bind fun g9 => (pm_gR m2 6 4 x0).bind fun g10 => (pm_gR m2 1 3 g10).bind fun g11 => bif pm_kd m2 3 g9 then ((pm_oL (pm_C mX3_sumOver [.ref g9, .ref g11] m2)).bind fun q12 => some (.long q12.1, q12.2)) else none)) else none := (pm_xeqC mX6_twiceAtCorner c_X6_twiceAtCorner d_X6_twiceAtCorner rfl rfl 400 _ M).trans rfl
set_option maxRecDepth 100000 in
set_option maxHeartbeats 4000000 in
theorem e_X6_localAnswer (M : pm_M) (x0 : Nat) : pm_C mX6_localAnswer [.ref x0] M = bif pm_kd M 5 x0 then ((pm_oI (pm_C mX5_isSilent [.ref x0] M)).bind fun q1 => 
    if q1.1 = 0 then (some (.long 0, q1.2))
    else ((pm_gI q1.2 5 0 x0).bind fun g2 => 
      if g2 = 1 then (some (.long 1, q1.2))
      else (bif pm_kd q1.2 5 x0 then ((pm_oI (pm_C mX5_sureNumber [.ref x0] q1.2)).bind fun q3 => 
        if q3.1 < 0 then (bif pm_kd q3.2 5 x0 then ((pm_oI (pm_C mX5_isTwoByTwo [.ref x0] q3.2)).bind fun q4 => 
          if q4.1 = 0 then (some (.long pm_LARGE, q4.2))
          else (bif pm_kd q4.2 5 x0 then ((pm_oI (pm_C mX5_greatestCornerLaw [.ref x0] q4.2)).bind fun q5 => bif pm_kd q5.2 5 x0 then ((pm_oL (pm_C mX5_cornerLaw [.ref x0, .int q5.1] q5.2)).bind fun q6 => (pm_gI q6.2 5 2 x0).bind fun g7 => 
            if 0 < (lg_cmp q6.1 (2 * g7.toInt64)) then (some (.long 0, q6.2))
            else (some (.long 1, q6.2))) else none) else none)) else none)
        else (some (.long 1, q3.2))) else none))) else none := (pm_xeqC mX6_localAnswer c_X6_localAnswer d_X6_localAnswer rfl rfl 400 _ M).trans rfl
set_option maxRecDepth 100000 in
set_option maxHeartbeats 4000000 in
theorem e_X6_isTable (M : pm_M) (x0 : Int32) : pm_C mX6_isTable [.int x0] M = 
    if x0 < 0 then (some (.int 0, M))
    else (
      if 8 ≤ x0 then (some (.int 0, M))
      else (some (.int 1, M))) := (pm_xeqC mX6_isTable c_X6_isTable d_X6_isTable rfl rfl 400 _ M).trans rfl
set_option maxRecDepth 100000 in
set_option maxHeartbeats 4000000 in
theorem e_X6_isShape (M : pm_M) (x0 : Int32) (x1 : Int32) : pm_C mX6_isShape [.int x0, .int x1] M = 
    if x0 < 1 then (some (.int 0, M))
    else (
      if 3 < x0 then (some (.int 0, M))
      else (
        if x1 = 2 then (some (.int 1, M))
        else (
          if x1 = 3 then (some (.int 1, M))
          else (some (.int 0, M))))) := (pm_xeqC mX6_isShape c_X6_isShape d_X6_isShape rfl rfl 400 _ M).trans rfl
set_option maxRecDepth 100000 in
set_option maxHeartbeats 4000000 in
theorem e_X6_isPart (M : pm_M) (x0 : Int32) : pm_C mX6_isPart [.int x0] M = 
    if x0 = 0 then (some (.int 1, M))
    else (
      if x0 = 1 then (some (.int 1, M))
      else (some (.int 0, M))) := (pm_xeqC mX6_isPart c_X6_isPart d_X6_isPart rfl rfl 400 _ M).trans rfl
set_option maxRecDepth 100000 in
set_option maxHeartbeats 4000000 in
theorem e_X6_isRow (M : pm_M) (x0 : Int32) (x1 : Int32) : pm_C mX6_isRow [.int x0, .int x1] M = 
    if x0 < 0 then (some (.int 0, M))
    else (
      if 9 ≤ x0 then (some (.int 0, M))
      else (
        if x1 ≤ (x0 / 3) then (some (.int 0, M))
        else (
          if x1 ≤ (pm_rem x0 3) then (some (.int 0, M))
          else (some (.int 1, M))))) := (pm_xeqC mX6_isRow c_X6_isRow d_X6_isRow rfl rfl 400 _ M).trans rfl
set_option maxRecDepth 100000 in
set_option maxHeartbeats 4000000 in
theorem e_X6_spot (M : pm_M) (x0 : Int32) (x1 : Int32) (x2 : Int32) (x3 : Int32) : pm_C mX6_spot [.int x0, .int x1, .int x2, .int x3] M = some (.int ((((27 * x0) + (9 * x1)) + (3 * x2)) + x3), M) := (pm_xeqC mX6_spot c_X6_spot d_X6_spot rfl rfl 400 _ M).trans rfl
set_option maxRecDepth 100000 in
set_option maxHeartbeats 4000000 in
theorem e_X6_power (M : pm_M) (x0 : Int32) (x1 : Int32) : pm_C mX6_power [.int x0, .int x1] M = pm_res mX6_power 4 [(0, .int x0), (1, .int x1), (2, .int 1), (3, .int 0)] [] M := (pm_xeqC mX6_power c_X6_power d_X6_power rfl rfl 400 _ M).trans rfl
set_option maxRecDepth 100000 in
set_option maxHeartbeats 4000000 in
theorem e_X6_power_4 (M : pm_M) (x0 : Int32) (x1 : Int32) (x2 : Int32) (x3 : Int32) : pm_res mX6_power 4 [(0, .int x0), (1, .int x1), (2, .int x2), (3, .int x3)] [] M = 
    if x1 ≤ x3 then (some (.int x2, M))
    else (pm_res mX6_power 4 [(0, .int x0), (1, .int x1), (2, .int (x2 * x0)), (3, .int (x3 + 1))] [] M) := (pm_xeq mX6_power c_X6_power d_X6_power rfl rfl 400 4 _ _ M).trans rfl
set_option maxRecDepth 100000 in
set_option maxHeartbeats 4000000 in
theorem e_X6_sureTables (M : pm_M) (x0 : Int32) (x1 : Int32) : pm_C mX6_sureTables [.int x0, .int x1] M = (pm_oI (pm_C mX6_power [.int x1, .int (2 * x0)] M)).bind fun q1 => some (.int q1.1, q1.2) := (pm_xeqC mX6_sureTables c_X6_sureTables d_X6_sureTables rfl rfl 400 _ M).trans rfl
set_option maxRecDepth 100000 in
set_option maxHeartbeats 4000000 in
theorem e_X6_digit (M : pm_M) (x0 : Int32) (x1 : Int32) (x2 : Int32) : pm_C mX6_digit [.int x0, .int x1, .int x2] M = 
    if 2 ≤ x1 then (pm_res mX6_digit 12 [(1, .int x1), (2, .int x2), (3, .int x0), (4, .int 0)] [] M)
    else (some (.int 0, M)) := (pm_xeqC mX6_digit c_X6_digit d_X6_digit rfl rfl 400 _ M).trans rfl
set_option maxRecDepth 100000 in
set_option maxHeartbeats 4000000 in
theorem e_X6_digit_12 (M : pm_M) (x1 : Int32) (x2 : Int32) (x3 : Int32) (x4 : Int32) : pm_res mX6_digit 12 [(1, .int x1), (2, .int x2), (3, .int x3), (4, .int x4)] [] M = 
    if x2 ≤ x4 then (pm_nz (decide (x1 = 0)) <| some (.int (pm_rem x3 x1), M))
    else (pm_nz (decide (x1 = 0)) <| pm_res mX6_digit 12 [(1, .int x1), (2, .int x2), (3, .int (x3 / x1)), (4, .int (x4 + 1))] [] M) := (pm_xeq mX6_digit c_X6_digit d_X6_digit rfl rfl 400 12 _ _ M).trans rfl
set_option maxRecDepth 100000 in
set_option maxHeartbeats 4000000 in
theorem e_X6_countNotZero (M : pm_M) (x0 : Nat) : pm_C mX6_countNotZero [.ref x0] M = pm_res mX6_countNotZero 4 [(0, .ref x0), (1, .int 0), (2, .int 0)] [] M := (pm_xeqC mX6_countNotZero c_X6_countNotZero d_X6_countNotZero rfl rfl 400 _ M).trans rfl
set_option maxRecDepth 100000 in
set_option maxHeartbeats 4000000 in
theorem e_X6_countNotZero_4 (M : pm_M) (x0 : Nat) (x1 : Int32) (x2 : Int32) : pm_res mX6_countNotZero 4 [(0, .ref x0), (1, .int x1), (2, .int x2)] [] M = (pm_al M x0).bind fun g1 => 
    if g1 ≤ x2 then (some (.int x1, M))
    else ((pm_aI M x0 x2).bind fun g2 => 
      if g2 = 0 then (pm_res mX6_countNotZero 4 [(0, .ref x0), (1, .int x1), (2, .int (x2 + 1))] [] M)
      else (pm_res mX6_countNotZero 4 [(0, .ref x0), (1, .int (x1 + 1)), (2, .int (x2 + 1))] [] M)) := (pm_xeq mX6_countNotZero c_X6_countNotZero d_X6_countNotZero rfl rfl 400 4 _ _ M).trans rfl
set_option maxRecDepth 100000 in
set_option maxHeartbeats 4000000 in
theorem e_X6_commonDivisor (M : pm_M) (x0 : Int64) (x2 : Int64) : pm_C mX6_commonDivisor [.long x0, .long x2] M = pm_res mX6_commonDivisor 15 [(4, .long (pm_absL x0)), (6, .long (pm_absL x2)), (8, .int 0)] [] M := (pm_xeqC mX6_commonDivisor c_X6_commonDivisor d_X6_commonDivisor rfl rfl 400 _ M).trans rfl
set_option maxRecDepth 100000 in
set_option maxHeartbeats 4000000 in
theorem e_X6_commonDivisor_15 (M : pm_M) (x4 : Int64) (x6 : Int64) (x8 : Int32) : pm_res mX6_commonDivisor 15 [(4, .long x4), (6, .long x6), (8, .int x8)] [] M = 
    if 200 ≤ x8 then (some (.long (pm_maxL 1 x4), M))
    else (
      if (lg_cmp x6 0) = 0 then (some (.long (pm_maxL 1 x4), M))
      else (pm_nz (decide (x6 = 0)) <| pm_res mX6_commonDivisor 15 [(4, .long x6), (6, .long (pm_remL x4 x6)), (8, .int (x8 + 1))] [] M)) := (pm_xeq mX6_commonDivisor c_X6_commonDivisor d_X6_commonDivisor rfl rfl 400 15 _ _ M).trans rfl
set_option maxRecDepth 100000 in
set_option maxHeartbeats 4000000 in
theorem e_X6_fraction (M : pm_M) (x0 : Int64) (x2 : Int64) (x4 : Int32) : pm_C mX6_fraction [.long x0, .long x2, .int x4] M = (pm_oL (pm_C mX6_commonDivisor [.long x0, .long x2] M)).bind fun q1 => 
    if x4 = 0 then (pm_nz (decide (q1.1 = 0)) <| some (.long (x0 / q1.1), q1.2))
    else (pm_nz (decide (q1.1 = 0)) <| some (.long (x2 / q1.1), q1.2)) := (pm_xeqC mX6_fraction c_X6_fraction d_X6_fraction rfl rfl 400 _ M).trans rfl
