set_option maxRecDepth 100000 in
set_option maxHeartbeats 4000000 in
theorem e_L_law (M : pm_M) (x0 : Nat) : pm_C mL_law [.ref x0] M = bif pm_kd (pm_new M (6, 6)) 6 (M).1.length then ((pm_oV (pm_C mX6_init [.ref (M).1.length] (pm_new M (6, 6)))).bind fun m1 => bif pm_kd (pm_new m1 (7, 9)) 7 (m1).1.length then ((pm_oV (pm_C mX7_init [.ref (m1).1.length] (pm_new m1 (7, 9)))).bind fun m2 => pm_res mL_law 18 [(0, .ref x0), (1, .ref (M).1.length), (2, .ref (m1).1.length), (3, .int 0)] [] m2) else none) else none := (pm_xeqC mL_law c_L_law d_L_law rfl rfl 400 _ M).trans rfl
set_option maxRecDepth 100000 in
set_option maxHeartbeats 4000000 in
theorem e_L_law_18 (M : pm_M) (x0 : Nat) (x1 : Nat) (x2 : Nat) (x3 : Int32) : pm_res mL_law 18 [(0, .ref x0), (1, .ref x1), (2, .ref x2), (3, .int x3)] [] M = (pm_al M x0).bind fun g1 => 
    if (g1 - 5) < x3 then (some (.int 1, M))
    else ((pm_aI M x0 x3).bind fun g2 => 
      if (g2 &&& 31) = 0 then ((pm_aI M x0 (x3 + 1)).bind fun g3 => (pm_aI M x0 (x3 + 2)).bind fun g4 => (pm_aI M x0 (x3 + 3)).bind fun g5 => (pm_aI M x0 (x3 + 4)).bind fun g6 => bif pm_kd M 6 x1 then ((pm_oL (pm_C mX6_shape [.ref x1, .int g3, .int g4, .int g5, .int g6] M)).bind fun q7 => (pm_aI q7.2 x0 (x3 + 1)).bind fun g8 => (pm_aI q7.2 x0 (x3 + 2)).bind fun g9 => (pm_aI q7.2 x0 (x3 + 3)).bind fun g10 => (pm_aI q7.2 x0 (x3 + 4)).bind fun g11 => bif pm_kd q7.2 7 x2 then ((pm_oL (pm_C mX7_shape [.ref x2, .int g8, .int g9, .int g10, .int g11] q7.2)).bind fun q12 => 
          if (lg_cmp q7.1 q12.1) = 0 then (pm_res mL_law 18 [(0, .ref x0), (1, .ref x1), (2, .ref x2), (3, .int (x3 + 5))] [] q12.2)
          else (some (.int 0, q12.2))) else none) else none) else
      if (g2 &&& 31) = 1 then ((pm_aI M x0 (x3 + 1)).bind fun g13 => bif pm_kd M 6 x1 then ((pm_oL (pm_C mX6_lose [.ref x1, .int g13] M)).bind fun q14 => (pm_aI q14.2 x0 (x3 + 1)).bind fun g15 => bif pm_kd q14.2 7 x2 then ((pm_oL (pm_C mX7_lose [.ref x2, .int g15] q14.2)).bind fun q16 => 
          if (lg_cmp q14.1 q16.1) = 0 then (pm_res mL_law 18 [(0, .ref x0), (1, .ref x1), (2, .ref x2), (3, .int (x3 + 5))] [] q16.2)
          else (some (.int 0, q16.2))) else none) else none) else
      if (g2 &&& 31) = 2 then ((pm_aI M x0 (x3 + 1)).bind fun g17 => (pm_aI M x0 (x3 + 2)).bind fun g18 => (pm_aI M x0 (x3 + 3)).bind fun g19 => (pm_aI M x0 (x3 + 4)).bind fun g20 => bif pm_kd M 6 x1 then ((pm_oL (pm_C mX6_cell [.ref x1, .int g17, .int g18, .int g19, .int g20] M)).bind fun q21 => (pm_aI q21.2 x0 (x3 + 1)).bind fun g22 => (pm_aI q21.2 x0 (x3 + 2)).bind fun g23 => (pm_aI q21.2 x0 (x3 + 3)).bind fun g24 => (pm_aI q21.2 x0 (x3 + 4)).bind fun g25 => bif pm_kd q21.2 7 x2 then ((pm_oL (pm_C mX7_cell [.ref x2, .int g22, .int g23, .int g24, .int g25] q21.2)).bind fun q26 => 
          if (lg_cmp q21.1 q26.1) = 0 then (pm_res mL_law 18 [(0, .ref x0), (1, .ref x1), (2, .ref x2), (3, .int (x3 + 5))] [] q26.2)
          else (some (.int 0, q26.2))) else none) else none) else
      if (g2 &&& 31) = 3 then ((pm_aI M x0 (x3 + 1)).bind fun g27 => (pm_aI M x0 (x3 + 2)).bind fun g28 => (pm_aI M x0 (x3 + 3)).bind fun g29 => (pm_aI M x0 (x3 + 4)).bind fun g30 => bif pm_kd M 6 x1 then ((pm_oL (pm_C mX6_sure [.ref x1, .int g27, .int g28, .int g29, .int g30] M)).bind fun q31 => (pm_aI q31.2 x0 (x3 + 1)).bind fun g32 => (pm_aI q31.2 x0 (x3 + 2)).bind fun g33 => (pm_aI q31.2 x0 (x3 + 3)).bind fun g34 => (pm_aI q31.2 x0 (x3 + 4)).bind fun g35 => bif pm_kd q31.2 7 x2 then ((pm_oL (pm_C mX7_sure [.ref x2, .int g32, .int g33, .int g34, .int g35] q31.2)).bind fun q36 => 
          if (lg_cmp q31.1 q36.1) = 0 then (pm_res mL_law 18 [(0, .ref x0), (1, .ref x1), (2, .ref x2), (3, .int (x3 + 5))] [] q36.2)
          else (some (.int 0, q36.2))) else none) else none) else
      if (g2 &&& 31) = 4 then ((pm_aI M x0 (x3 + 1)).bind fun g37 => (pm_aI M x0 (x3 + 2)).bind fun g38 => bif pm_kd M 6 x1 then ((pm_oL (pm_C mX6_corner [.ref x1, .int g37, .int g38] M)).bind fun q39 => (pm_aI q39.2 x0 (x3 + 1)).bind fun g40 => (pm_aI q39.2 x0 (x3 + 2)).bind fun g41 => bif pm_kd q39.2 7 x2 then ((pm_oL (pm_C mX7_corner [.ref x2, .int g40, .int g41] q39.2)).bind fun q42 => 
          if (lg_cmp q39.1 q42.1) = 0 then (pm_res mL_law 18 [(0, .ref x0), (1, .ref x1), (2, .ref x2), (3, .int (x3 + 5))] [] q42.2)
          else (some (.int 0, q42.2))) else none) else none) else
      if (g2 &&& 31) = 5 then ((pm_aI M x0 (x3 + 1)).bind fun g43 => (pm_aI M x0 (x3 + 2)).bind fun g44 => bif pm_kd M 6 x1 then ((pm_oL (pm_C mX6_about [.ref x1, .int g43, .int g44] M)).bind fun q45 => (pm_aI q45.2 x0 (x3 + 1)).bind fun g46 => (pm_aI q45.2 x0 (x3 + 2)).bind fun g47 => bif pm_kd q45.2 7 x2 then ((pm_oL (pm_C mX7_about [.ref x2, .int g46, .int g47] q45.2)).bind fun q48 => 
          if (lg_cmp q45.1 q48.1) = 0 then (pm_res mL_law 18 [(0, .ref x0), (1, .ref x1), (2, .ref x2), (3, .int (x3 + 5))] [] q48.2)
          else (some (.int 0, q48.2))) else none) else none) else
      if (g2 &&& 31) = 6 then ((pm_aI M x0 (x3 + 1)).bind fun g49 => (pm_aI M x0 (x3 + 2)).bind fun g50 => (pm_aI M x0 (x3 + 3)).bind fun g51 => bif pm_kd M 6 x1 then ((pm_oL (pm_C mX6_chance [.ref x1, .int g49, .int g50, .int g51] M)).bind fun q52 => (pm_aI q52.2 x0 (x3 + 1)).bind fun g53 => (pm_aI q52.2 x0 (x3 + 2)).bind fun g54 => (pm_aI q52.2 x0 (x3 + 3)).bind fun g55 => bif pm_kd q52.2 7 x2 then ((pm_oL (pm_C mX7_chance [.ref x2, .int g53, .int g54, .int g55] q52.2)).bind fun q56 => 
          if (lg_cmp q52.1 q56.1) = 0 then (pm_res mL_law 18 [(0, .ref x0), (1, .ref x1), (2, .ref x2), (3, .int (x3 + 5))] [] q56.2)
          else (some (.int 0, q56.2))) else none) else none) else
      if (g2 &&& 31) = 7 then ((pm_aI M x0 (x3 + 1)).bind fun g57 => (pm_aI M x0 (x3 + 2)).bind fun g58 => (pm_aI M x0 (x3 + 3)).bind fun g59 => (pm_aI M x0 (x3 + 4)).bind fun g60 => bif pm_kd M 6 x1 then ((pm_oL (pm_C mX6_swap [.ref x1, .int g57, .int g58, .int g59, .int g60] M)).bind fun q61 => (pm_aI q61.2 x0 (x3 + 1)).bind fun g62 => (pm_aI q61.2 x0 (x3 + 2)).bind fun g63 => (pm_aI q61.2 x0 (x3 + 3)).bind fun g64 => (pm_aI q61.2 x0 (x3 + 4)).bind fun g65 => bif pm_kd q61.2 7 x2 then ((pm_oL (pm_C mX7_swap [.ref x2, .int g62, .int g63, .int g64, .int g65] q61.2)).bind fun q66 => 
          if (lg_cmp q61.1 q66.1) = 0 then (pm_res mL_law 18 [(0, .ref x0), (1, .ref x1), (2, .ref x2), (3, .int (x3 + 5))] [] q66.2)
          else (some (.int 0, q66.2))) else none) else none) else
      if (g2 &&& 31) = 8 then ((pm_aI M x0 (x3 + 1)).bind fun g67 => (pm_aI M x0 (x3 + 2)).bind fun g68 => bif pm_kd M 6 x1 then ((pm_oL (pm_C mX6_turn [.ref x1, .int g67, .int g68] M)).bind fun q69 => (pm_aI q69.2 x0 (x3 + 1)).bind fun g70 => (pm_aI q69.2 x0 (x3 + 2)).bind fun g71 => bif pm_kd q69.2 7 x2 then ((pm_oL (pm_C mX7_turn [.ref x2, .int g70, .int g71] q69.2)).bind fun q72 => 
          if (lg_cmp q69.1 q72.1) = 0 then (pm_res mL_law 18 [(0, .ref x0), (1, .ref x1), (2, .ref x2), (3, .int (x3 + 5))] [] q72.2)
          else (some (.int 0, q72.2))) else none) else none) else
      if (g2 &&& 31) = 9 then ((pm_aI M x0 (x3 + 1)).bind fun g73 => (pm_aI M x0 (x3 + 2)).bind fun g74 => bif pm_kd M 6 x1 then ((pm_oL (pm_C mX6_same [.ref x1, .int g73, .int g74] M)).bind fun q75 => (pm_aI q75.2 x0 (x3 + 1)).bind fun g76 => (pm_aI q75.2 x0 (x3 + 2)).bind fun g77 => bif pm_kd q75.2 7 x2 then ((pm_oL (pm_C mX7_same [.ref x2, .int g76, .int g77] q75.2)).bind fun q78 => 
          if (lg_cmp q75.1 q78.1) = 0 then (pm_res mL_law 18 [(0, .ref x0), (1, .ref x1), (2, .ref x2), (3, .int (x3 + 5))] [] q78.2)
          else (some (.int 0, q78.2))) else none) else none) else
      if (g2 &&& 31) = 10 then ((pm_aI M x0 (x3 + 1)).bind fun g79 => (pm_aI M x0 (x3 + 2)).bind fun g80 => bif pm_kd M 6 x1 then ((pm_oL (pm_C mX6_isOf [.ref x1, .int g79, .int g80] M)).bind fun q81 => (pm_aI q81.2 x0 (x3 + 1)).bind fun g82 => (pm_aI q81.2 x0 (x3 + 2)).bind fun g83 => bif pm_kd q81.2 7 x2 then ((pm_oL (pm_C mX7_isOf [.ref x2, .int g82, .int g83] q81.2)).bind fun q84 => 
          if (lg_cmp q81.1 q84.1) = 0 then (pm_res mL_law 18 [(0, .ref x0), (1, .ref x1), (2, .ref x2), (3, .int (x3 + 5))] [] q84.2)
          else (some (.int 0, q84.2))) else none) else none) else
      if (g2 &&& 31) = 11 then ((pm_aI M x0 (x3 + 1)).bind fun g85 => bif pm_kd M 6 x1 then ((pm_oL (pm_C mX6_who [.ref x1, .int g85] M)).bind fun q86 => (pm_aI q86.2 x0 (x3 + 1)).bind fun g87 => bif pm_kd q86.2 7 x2 then ((pm_oL (pm_C mX7_who [.ref x2, .int g87] q86.2)).bind fun q88 => 
          if (lg_cmp q86.1 q88.1) = 0 then (pm_res mL_law 18 [(0, .ref x0), (1, .ref x1), (2, .ref x2), (3, .int (x3 + 5))] [] q88.2)
          else (some (.int 0, q88.2))) else none) else none) else
      if (g2 &&& 31) = 12 then ((pm_aI M x0 (x3 + 1)).bind fun g89 => bif pm_kd M 6 x1 then ((pm_oL (pm_C mX6_number [.ref x1, .int g89] M)).bind fun q90 => (pm_aI q90.2 x0 (x3 + 1)).bind fun g91 => bif pm_kd q90.2 7 x2 then ((pm_oL (pm_C mX7_number [.ref x2, .int g91] q90.2)).bind fun q92 => 
          if (lg_cmp q90.1 q92.1) = 0 then (pm_res mL_law 18 [(0, .ref x0), (1, .ref x1), (2, .ref x2), (3, .int (x3 + 5))] [] q92.2)
          else (some (.int 0, q92.2))) else none) else none) else
      if (g2 &&& 31) = 13 then ((pm_aI M x0 (x3 + 1)).bind fun g93 => (pm_aI M x0 (x3 + 2)).bind fun g94 => bif pm_kd M 6 x1 then ((pm_oL (pm_C mX6_law [.ref x1, .int g93, .int g94] M)).bind fun q95 => (pm_aI q95.2 x0 (x3 + 1)).bind fun g96 => (pm_aI q95.2 x0 (x3 + 2)).bind fun g97 => bif pm_kd q95.2 7 x2 then ((pm_oL (pm_C mX7_law [.ref x2, .int g96, .int g97] q95.2)).bind fun q98 => 
          if (lg_cmp q95.1 q98.1) = 0 then (pm_res mL_law 18 [(0, .ref x0), (1, .ref x1), (2, .ref x2), (3, .int (x3 + 5))] [] q98.2)
          else (some (.int 0, q98.2))) else none) else none) else
      if (g2 &&& 31) = 14 then ((pm_aI M x0 (x3 + 1)).bind fun g99 => bif pm_kd M 6 x1 then ((pm_oL (pm_C mX6_broken [.ref x1, .int g99] M)).bind fun q100 => (pm_aI q100.2 x0 (x3 + 1)).bind fun g101 => bif pm_kd q100.2 7 x2 then ((pm_oL (pm_C mX7_broken [.ref x2, .int g101] q100.2)).bind fun q102 => 
          if (lg_cmp q100.1 q102.1) = 0 then (pm_res mL_law 18 [(0, .ref x0), (1, .ref x1), (2, .ref x2), (3, .int (x3 + 5))] [] q102.2)
          else (some (.int 0, q102.2))) else none) else none) else
      if (g2 &&& 31) = 15 then ((pm_aI M x0 (x3 + 1)).bind fun g103 => (pm_aI M x0 (x3 + 2)).bind fun g104 => (pm_aI M x0 (x3 + 3)).bind fun g105 => bif pm_kd M 6 x1 then ((pm_oL (pm_C mX6_near [.ref x1, .int g103, .int g104, .int g105] M)).bind fun q106 => (pm_aI q106.2 x0 (x3 + 1)).bind fun g107 => (pm_aI q106.2 x0 (x3 + 2)).bind fun g108 => (pm_aI q106.2 x0 (x3 + 3)).bind fun g109 => bif pm_kd q106.2 7 x2 then ((pm_oL (pm_C mX7_near [.ref x2, .int g107, .int g108, .int g109] q106.2)).bind fun q110 => 
          if (lg_cmp q106.1 q110.1) = 0 then (pm_res mL_law 18 [(0, .ref x0), (1, .ref x1), (2, .ref x2), (3, .int (x3 + 5))] [] q110.2)
          else (some (.int 0, q110.2))) else none) else none) else
      if (g2 &&& 31) = 16 then ((pm_aI M x0 (x3 + 1)).bind fun g111 => (pm_aI M x0 (x3 + 2)).bind fun g112 => bif pm_kd M 6 x1 then ((pm_oL (pm_C mX6_begin [.ref x1, .int g111, .int g112] M)).bind fun q113 => (pm_aI q113.2 x0 (x3 + 1)).bind fun g114 => (pm_aI q113.2 x0 (x3 + 2)).bind fun g115 => bif pm_kd q113.2 7 x2 then ((pm_oL (pm_C mX7_begin [.ref x2, .int g114, .int g115] q113.2)).bind fun q116 => 
          if (lg_cmp q113.1 q116.1) = 0 then (pm_res mL_law 18 [(0, .ref x0), (1, .ref x1), (2, .ref x2), (3, .int (x3 + 5))] [] q116.2)
          else (some (.int 0, q116.2))) else none) else none) else
      if (g2 &&& 31) = 17 then ((pm_aI M x0 (x3 + 1)).bind fun g117 => (pm_aI M x0 (x3 + 2)).bind fun g118 => (pm_aI M x0 (x3 + 3)).bind fun g119 => bif pm_kd M 6 x1 then ((pm_oL (pm_C mX6_weigh [.ref x1, .int g117, .int g118, .int g119] M)).bind fun q120 => (pm_aI q120.2 x0 (x3 + 1)).bind fun g121 => (pm_aI q120.2 x0 (x3 + 2)).bind fun g122 => (pm_aI q120.2 x0 (x3 + 3)).bind fun g123 => bif pm_kd q120.2 7 x2 then ((pm_oL (pm_C mX7_weigh [.ref x2, .int g121, .int g122, .int g123] q120.2)).bind fun q124 => 
          if (lg_cmp q120.1 q124.1) = 0 then (pm_res mL_law 18 [(0, .ref x0), (1, .ref x1), (2, .ref x2), (3, .int (x3 + 5))] [] q124.2)
          else (some (.int 0, q124.2))) else none) else none) else
      if (g2 &&& 31) = 18 then ((pm_aI M x0 (x3 + 1)).bind fun g125 => bif pm_kd M 6 x1 then ((pm_oL (pm_C mX6_take [.ref x1, .int g125] M)).bind fun q126 => (pm_aI q126.2 x0 (x3 + 1)).bind fun g127 => bif pm_kd q126.2 7 x2 then ((pm_oL (pm_C mX7_take [.ref x2, .int g127] q126.2)).bind fun q128 => 
          if (lg_cmp q126.1 q128.1) = 0 then (pm_res mL_law 18 [(0, .ref x0), (1, .ref x1), (2, .ref x2), (3, .int (x3 + 5))] [] q128.2)
          else (some (.int 0, q128.2))) else none) else none) else
      if (g2 &&& 31) = 19 then ((pm_aI M x0 (x3 + 1)).bind fun g129 => (pm_aI M x0 (x3 + 2)).bind fun g130 => bif pm_kd M 6 x1 then ((pm_oL (pm_C mX6_value [.ref x1, .int g129, .int g130] M)).bind fun q131 => (pm_aI q131.2 x0 (x3 + 1)).bind fun g132 => (pm_aI q131.2 x0 (x3 + 2)).bind fun g133 => bif pm_kd q131.2 7 x2 then ((pm_oL (pm_C mX7_value [.ref x2, .int g132, .int g133] q131.2)).bind fun q134 => 
          if (lg_cmp q131.1 q134.1) = 0 then (pm_res mL_law 18 [(0, .ref x0), (1, .ref x1), (2, .ref x2), (3, .int (x3 + 5))] [] q134.2)
          else (some (.int 0, q134.2))) else none) else none) else
      if (g2 &&& 31) = 20 then ((pm_aI M x0 (x3 + 1)).bind fun g135 => bif pm_kd M 6 x1 then ((pm_oL (pm_C mX6_bound [.ref x1, .int g135] M)).bind fun q136 => (pm_aI q136.2 x0 (x3 + 1)).bind fun g137 => bif pm_kd q136.2 7 x2 then ((pm_oL (pm_C mX7_bound [.ref x2, .int g137] q136.2)).bind fun q138 => 
          if (lg_cmp q136.1 q138.1) = 0 then (pm_res mL_law 18 [(0, .ref x0), (1, .ref x1), (2, .ref x2), (3, .int (x3 + 5))] [] q138.2)
          else (some (.int 0, q138.2))) else none) else none) else
      if (g2 &&& 31) = 21 then ((pm_aI M x0 (x3 + 1)).bind fun g139 => bif pm_kd M 6 x1 then ((pm_oL (pm_C mX6_breaks [.ref x1, .int g139] M)).bind fun q140 => (pm_aI q140.2 x0 (x3 + 1)).bind fun g141 => bif pm_kd q140.2 7 x2 then ((pm_oL (pm_C mX7_breaks [.ref x2, .int g141] q140.2)).bind fun q142 => 
          if (lg_cmp q140.1 q142.1) = 0 then (pm_res mL_law 18 [(0, .ref x0), (1, .ref x1), (2, .ref x2), (3, .int (x3 + 5))] [] q142.2)
          else (some (.int 0, q142.2))) else none) else none) else
      if (g2 &&& 31) = 22 then ((pm_aI M x0 (x3 + 1)).bind fun g143 => bif pm_kd M 6 x1 then ((pm_oL (pm_C mX6_best [.ref x1, .int g143] M)).bind fun q144 => (pm_aI q144.2 x0 (x3 + 1)).bind fun g145 => bif pm_kd q144.2 7 x2 then ((pm_oL (pm_C mX7_best [.ref x2, .int g145] q144.2)).bind fun q146 => 
          if (lg_cmp q144.1 q146.1) = 0 then (pm_res mL_law 18 [(0, .ref x0), (1, .ref x1), (2, .ref x2), (3, .int (x3 + 5))] [] q146.2)
          else (some (.int 0, q146.2))) else none) else none) else
      if (g2 &&& 31) = 23 then ((pm_aI M x0 (x3 + 1)).bind fun g147 => (pm_aI M x0 (x3 + 2)).bind fun g148 => bif pm_kd M 6 x1 then ((pm_oL (pm_C mX6_share [.ref x1, .int g147, .int g148] M)).bind fun q149 => (pm_aI q149.2 x0 (x3 + 1)).bind fun g150 => (pm_aI q149.2 x0 (x3 + 2)).bind fun g151 => bif pm_kd q149.2 7 x2 then ((pm_oL (pm_C mX7_share [.ref x2, .int g150, .int g151] q149.2)).bind fun q152 => 
          if (lg_cmp q149.1 q152.1) = 0 then (pm_res mL_law 18 [(0, .ref x0), (1, .ref x1), (2, .ref x2), (3, .int (x3 + 5))] [] q152.2)
          else (some (.int 0, q152.2))) else none) else none) else
      if (g2 &&& 31) = 24 then ((pm_aI M x0 (x3 + 1)).bind fun g153 => bif pm_kd M 6 x1 then ((pm_oL (pm_C mX6_mixed [.ref x1, .int g153] M)).bind fun q154 => (pm_aI q154.2 x0 (x3 + 1)).bind fun g155 => bif pm_kd q154.2 7 x2 then ((pm_oL (pm_C mX7_mixed [.ref x2, .int g155] q154.2)).bind fun q156 => 
          if (lg_cmp q154.1 q156.1) = 0 then (pm_res mL_law 18 [(0, .ref x0), (1, .ref x1), (2, .ref x2), (3, .int (x3 + 5))] [] q156.2)
          else (some (.int 0, q156.2))) else none) else none) else
      if (g2 &&& 31) = 25 then ((pm_aI M x0 (x3 + 1)).bind fun g157 => bif pm_kd M 6 x1 then ((pm_oL (pm_C mX6_makes [.ref x1, .int g157] M)).bind fun q158 => (pm_aI q158.2 x0 (x3 + 1)).bind fun g159 => bif pm_kd q158.2 7 x2 then ((pm_oL (pm_C mX7_makes [.ref x2, .int g159] q158.2)).bind fun q160 => 
          if (lg_cmp q158.1 q160.1) = 0 then (pm_res mL_law 18 [(0, .ref x0), (1, .ref x1), (2, .ref x2), (3, .int (x3 + 5))] [] q160.2)
          else (some (.int 0, q160.2))) else none) else none) else
      if (g2 &&& 31) = 26 then ((pm_aI M x0 (x3 + 1)).bind fun g161 => (pm_aI M x0 (x3 + 2)).bind fun g162 => (pm_aI M x0 (x3 + 3)).bind fun g163 => bif pm_kd M 6 x1 then ((pm_oL (pm_C mX6_wire [.ref x1, .int g161, .int g162, .int g163] M)).bind fun q164 => (pm_aI q164.2 x0 (x3 + 1)).bind fun g165 => (pm_aI q164.2 x0 (x3 + 2)).bind fun g166 => (pm_aI q164.2 x0 (x3 + 3)).bind fun g167 => bif pm_kd q164.2 7 x2 then ((pm_oL (pm_C mX7_wire [.ref x2, .int g165, .int g166, .int g167] q164.2)).bind fun q168 => 
          if (lg_cmp q164.1 q168.1) = 0 then (pm_res mL_law 18 [(0, .ref x0), (1, .ref x1), (2, .ref x2), (3, .int (x3 + 5))] [] q168.2)
          else (some (.int 0, q168.2))) else none) else none) else
      if (g2 &&& 31) = 27 then ((pm_aI M x0 (x3 + 1)).bind fun g169 => (pm_aI M x0 (x3 + 2)).bind fun g170 => (pm_aI M x0 (x3 + 3)).bind fun g171 => (pm_aI M x0 (x3 + 4)).bind fun g172 => bif pm_kd M 6 x1 then ((pm_oL (pm_C mX6_blend [.ref x1, .int g169, .int g170, .int g171, .int g172] M)).bind fun q173 => (pm_aI q173.2 x0 (x3 + 1)).bind fun g174 => (pm_aI q173.2 x0 (x3 + 2)).bind fun g175 => (pm_aI q173.2 x0 (x3 + 3)).bind fun g176 => (pm_aI q173.2 x0 (x3 + 4)).bind fun g177 => bif pm_kd q173.2 7 x2 then ((pm_oL (pm_C mX7_blend [.ref x2, .int g174, .int g175, .int g176, .int g177] q173.2)).bind fun q178 => 
          if (lg_cmp q173.1 q178.1) = 0 then (pm_res mL_law 18 [(0, .ref x0), (1, .ref x1), (2, .ref x2), (3, .int (x3 + 5))] [] q178.2)
          else (some (.int 0, q178.2))) else none) else none) else
      if (g2 &&& 31) = 28 then ((pm_aI M x0 (x3 + 1)).bind fun g179 => (pm_aI M x0 (x3 + 2)).bind fun g180 => (pm_aI M x0 (x3 + 3)).bind fun g181 => bif pm_kd M 6 x1 then ((pm_oL (pm_C mX6_parity [.ref x1, .int g179, .int g180, .int g181] M)).bind fun q182 => (pm_aI q182.2 x0 (x3 + 1)).bind fun g183 => (pm_aI q182.2 x0 (x3 + 2)).bind fun g184 => (pm_aI q182.2 x0 (x3 + 3)).bind fun g185 => bif pm_kd q182.2 7 x2 then ((pm_oL (pm_C mX7_parity [.ref x2, .int g183, .int g184, .int g185] q182.2)).bind fun q186 => 
          if (lg_cmp q182.1 q186.1) = 0 then (pm_res mL_law 18 [(0, .ref x0), (1, .ref x1), (2, .ref x2), (3, .int (x3 + 5))] [] q186.2)
          else (some (.int 0, q186.2))) else none) else none) else
      if (g2 &&& 31) = 29 then (bif pm_kd M 6 x1 then ((pm_oL (pm_C mX6_undo [.ref x1] M)).bind fun q187 => bif pm_kd q187.2 7 x2 then ((pm_oL (pm_C mX7_undo [.ref x2] q187.2)).bind fun q188 => 
          if (lg_cmp q187.1 q188.1) = 0 then (pm_res mL_law 18 [(0, .ref x0), (1, .ref x1), (2, .ref x2), (3, .int (x3 + 5))] [] q188.2)
          else (some (.int 0, q188.2))) else none) else none) else
      if (g2 &&& 31) = 30 then ((pm_aI M x0 (x3 + 1)).bind fun g189 => bif pm_kd M 6 x1 then ((pm_oL (pm_C mX6_count [.ref x1, .int g189] M)).bind fun q190 => (pm_aI q190.2 x0 (x3 + 1)).bind fun g191 => bif pm_kd q190.2 7 x2 then ((pm_oL (pm_C mX7_count [.ref x2, .int g191] q190.2)).bind fun q192 => 
          if (lg_cmp q190.1 q192.1) = 0 then (pm_res mL_law 18 [(0, .ref x0), (1, .ref x1), (2, .ref x2), (3, .int (x3 + 5))] [] q192.2)
          else (some (.int 0, q192.2))) else none) else none) else
      (pm_res mL_law 18 [(0, .ref x0), (1, .ref x1), (2, .ref x2), (3, .int (x3 + 5))] [] M)) := (pm_xeq mL_law c_L_law d_L_law rfl rfl 400 18 _ _ M).trans rfl
