set_option maxRecDepth 100000 in
theorem pm_okC_e0 : lw_tbl[pm_pl 0]? = some (Cond.code (pm_y 0) (pm_by 0) (pm_ml 0) (pm_rt 0)) := by rfl
set_option maxRecDepth 100000 in
theorem pm_okC_e1 : lw_tbl[pm_pl 1]? = some (Cond.code (pm_y 1) (pm_by 1) (pm_ml 1) (pm_rt 1)) := by rfl
set_option maxRecDepth 100000 in
theorem pm_okC_e2 : lw_tbl[pm_pl 2]? = some (Cond.code (pm_y 2) (pm_by 2) (pm_ml 2) (pm_rt 2)) := by rfl
set_option maxRecDepth 100000 in
theorem pm_okC_e3 : lw_tbl[pm_pl 3]? = some (Cond.code (pm_y 3) (pm_by 3) (pm_ml 3) (pm_rt 3)) := by rfl
set_option maxRecDepth 100000 in
theorem pm_okC_e4 : lw_tbl[pm_pl 4]? = some (Cond.code (pm_y 4) (pm_by 4) (pm_ml 4) (pm_rt 4)) := by rfl
set_option maxRecDepth 100000 in
theorem pm_okC_e5 : lw_tbl[pm_pl 5]? = some (Cond.code (pm_y 5) (pm_by 5) (pm_ml 5) (pm_rt 5)) := by rfl
set_option maxRecDepth 100000 in
theorem pm_okC_e6 : lw_tbl[pm_pl 6]? = some (Cond.code (pm_y 6) (pm_by 6) (pm_ml 6) (pm_rt 6)) := by rfl
set_option maxRecDepth 100000 in
theorem pm_okC_e7 : lw_tbl[pm_pl 7]? = some (Cond.code (pm_y 7) (pm_by 7) (pm_ml 7) (pm_rt 7)) := by rfl
set_option maxRecDepth 100000 in
theorem pm_okC_e8 : lw_tbl[pm_pl 8]? = some (Cond.code (pm_y 8) (pm_by 8) (pm_ml 8) (pm_rt 8)) := by rfl
set_option maxRecDepth 100000 in
theorem pm_okC_e9 : lw_tbl[pm_pl 9]? = some (Cond.code (pm_y 9) (pm_by 9) (pm_ml 9) (pm_rt 9)) := by rfl
set_option maxRecDepth 100000 in
theorem pm_okC_e10 : lw_tbl[pm_pl 10]? = some (Cond.code (pm_y 10) (pm_by 10) (pm_ml 10) (pm_rt 10)) := by rfl
set_option maxRecDepth 100000 in
theorem pm_okC_e11 : lw_tbl[pm_pl 11]? = some (Cond.code (pm_y 11) (pm_by 11) (pm_ml 11) (pm_rt 11)) := by rfl
set_option maxRecDepth 100000 in
theorem pm_okC_e12 : lw_tbl[pm_pl 12]? = some (Cond.code (pm_y 12) (pm_by 12) (pm_ml 12) (pm_rt 12)) := by rfl
set_option maxRecDepth 100000 in
theorem pm_okC_e13 : lw_tbl[pm_pl 13]? = some (Cond.code (pm_y 13) (pm_by 13) (pm_ml 13) (pm_rt 13)) := by rfl
set_option maxRecDepth 100000 in
theorem pm_okC_e14 : lw_tbl[pm_pl 14]? = some (Cond.code (pm_y 14) (pm_by 14) (pm_ml 14) (pm_rt 14)) := by rfl
set_option maxRecDepth 100000 in
theorem pm_okC_e15 : lw_tbl[pm_pl 15]? = some (Cond.code (pm_y 15) (pm_by 15) (pm_ml 15) (pm_rt 15)) := by rfl
set_option maxRecDepth 100000 in
theorem pm_okC_e16 : lw_tbl[pm_pl 16]? = some (Cond.code (pm_y 16) (pm_by 16) (pm_ml 16) (pm_rt 16)) := by rfl
set_option maxRecDepth 100000 in
theorem pm_okC_e17 : lw_tbl[pm_pl 17]? = some (Cond.code (pm_y 17) (pm_by 17) (pm_ml 17) (pm_rt 17)) := by rfl
set_option maxRecDepth 100000 in
theorem pm_okC_e18 : lw_tbl[pm_pl 18]? = some (Cond.code (pm_y 18) (pm_by 18) (pm_ml 18) (pm_rt 18)) := by rfl
set_option maxRecDepth 100000 in
theorem pm_okC_e19 : lw_tbl[pm_pl 19]? = some (Cond.code (pm_y 19) (pm_by 19) (pm_ml 19) (pm_rt 19)) := by rfl
set_option maxRecDepth 100000 in
theorem pm_okC_e20 : lw_tbl[pm_pl 20]? = some (Cond.code (pm_y 20) (pm_by 20) (pm_ml 20) (pm_rt 20)) := by rfl
set_option maxRecDepth 100000 in
theorem pm_okC_e21 : lw_tbl[pm_pl 21]? = some (Cond.code (pm_y 21) (pm_by 21) (pm_ml 21) (pm_rt 21)) := by rfl
set_option maxRecDepth 100000 in
theorem pm_okC_e22 : lw_tbl[pm_pl 22]? = some (Cond.code (pm_y 22) (pm_by 22) (pm_ml 22) (pm_rt 22)) := by rfl
set_option maxRecDepth 100000 in
theorem pm_okC_e23 : lw_tbl[pm_pl 23]? = some (Cond.code (pm_y 23) (pm_by 23) (pm_ml 23) (pm_rt 23)) := by rfl
set_option maxRecDepth 100000 in
theorem pm_okC_e24 : lw_tbl[pm_pl 24]? = some (Cond.code (pm_y 24) (pm_by 24) (pm_ml 24) (pm_rt 24)) := by rfl
set_option maxRecDepth 100000 in
theorem pm_okC_e25 : lw_tbl[pm_pl 25]? = some (Cond.code (pm_y 25) (pm_by 25) (pm_ml 25) (pm_rt 25)) := by rfl
set_option maxRecDepth 100000 in
theorem pm_okC_e26 : lw_tbl[pm_pl 26]? = some (Cond.code (pm_y 26) (pm_by 26) (pm_ml 26) (pm_rt 26)) := by rfl
set_option maxRecDepth 100000 in
theorem pm_okC_e27 : lw_tbl[pm_pl 27]? = some (Cond.code (pm_y 27) (pm_by 27) (pm_ml 27) (pm_rt 27)) := by rfl
set_option maxRecDepth 100000 in
theorem pm_okC_e28 : lw_tbl[pm_pl 28]? = some (Cond.code (pm_y 28) (pm_by 28) (pm_ml 28) (pm_rt 28)) := by rfl
set_option maxRecDepth 100000 in
theorem pm_okC_e29 : lw_tbl[pm_pl 29]? = some (Cond.code (pm_y 29) (pm_by 29) (pm_ml 29) (pm_rt 29)) := by rfl
theorem pm_okC_0 (b : Nat) (h2 : b < 30) : lw_tbl[pm_pl b]? = some (Cond.code (pm_y b) (pm_by b) (pm_ml b) (pm_rt b)) := by
  rcases (by omega : b = 0 ∨ b = 1 ∨ b = 2 ∨ b = 3 ∨ b = 4 ∨ b = 5 ∨ b = 6 ∨ b = 7 ∨ b = 8 ∨ b = 9 ∨ b = 10 ∨ b = 11 ∨ b = 12 ∨ b = 13 ∨ b = 14 ∨ b = 15 ∨ b = 16 ∨ b = 17 ∨ b = 18 ∨ b = 19 ∨ b = 20 ∨ b = 21 ∨ b = 22 ∨ b = 23 ∨ b = 24 ∨ b = 25 ∨ b = 26 ∨ b = 27 ∨ b = 28 ∨ b = 29) with rfl | rfl | rfl | rfl | rfl | rfl | rfl | rfl | rfl | rfl | rfl | rfl | rfl | rfl | rfl | rfl | rfl | rfl | rfl | rfl | rfl | rfl | rfl | rfl | rfl | rfl | rfl | rfl | rfl | rfl
  · exact pm_okC_e0
  · exact pm_okC_e1
  · exact pm_okC_e2
  · exact pm_okC_e3
  · exact pm_okC_e4
  · exact pm_okC_e5
  · exact pm_okC_e6
  · exact pm_okC_e7
  · exact pm_okC_e8
  · exact pm_okC_e9
  · exact pm_okC_e10
  · exact pm_okC_e11
  · exact pm_okC_e12
  · exact pm_okC_e13
  · exact pm_okC_e14
  · exact pm_okC_e15
  · exact pm_okC_e16
  · exact pm_okC_e17
  · exact pm_okC_e18
  · exact pm_okC_e19
  · exact pm_okC_e20
  · exact pm_okC_e21
  · exact pm_okC_e22
  · exact pm_okC_e23
  · exact pm_okC_e24
  · exact pm_okC_e25
  · exact pm_okC_e26
  · exact pm_okC_e27
  · exact pm_okC_e28
  · exact pm_okC_e29
set_option maxRecDepth 100000 in
theorem pm_okC_e30 : lw_tbl[pm_pl 30]? = some (Cond.code (pm_y 30) (pm_by 30) (pm_ml 30) (pm_rt 30)) := by rfl
set_option maxRecDepth 100000 in
theorem pm_okC_e31 : lw_tbl[pm_pl 31]? = some (Cond.code (pm_y 31) (pm_by 31) (pm_ml 31) (pm_rt 31)) := by rfl
set_option maxRecDepth 100000 in
theorem pm_okC_e32 : lw_tbl[pm_pl 32]? = some (Cond.code (pm_y 32) (pm_by 32) (pm_ml 32) (pm_rt 32)) := by rfl
set_option maxRecDepth 100000 in
theorem pm_okC_e33 : lw_tbl[pm_pl 33]? = some (Cond.code (pm_y 33) (pm_by 33) (pm_ml 33) (pm_rt 33)) := by rfl
set_option maxRecDepth 100000 in
theorem pm_okC_e34 : lw_tbl[pm_pl 34]? = some (Cond.code (pm_y 34) (pm_by 34) (pm_ml 34) (pm_rt 34)) := by rfl
set_option maxRecDepth 100000 in
theorem pm_okC_e35 : lw_tbl[pm_pl 35]? = some (Cond.code (pm_y 35) (pm_by 35) (pm_ml 35) (pm_rt 35)) := by rfl
set_option maxRecDepth 100000 in
theorem pm_okC_e36 : lw_tbl[pm_pl 36]? = some (Cond.code (pm_y 36) (pm_by 36) (pm_ml 36) (pm_rt 36)) := by rfl
set_option maxRecDepth 100000 in
theorem pm_okC_e37 : lw_tbl[pm_pl 37]? = some (Cond.code (pm_y 37) (pm_by 37) (pm_ml 37) (pm_rt 37)) := by rfl
set_option maxRecDepth 100000 in
theorem pm_okC_e38 : lw_tbl[pm_pl 38]? = some (Cond.code (pm_y 38) (pm_by 38) (pm_ml 38) (pm_rt 38)) := by rfl
set_option maxRecDepth 100000 in
theorem pm_okC_e39 : lw_tbl[pm_pl 39]? = some (Cond.code (pm_y 39) (pm_by 39) (pm_ml 39) (pm_rt 39)) := by rfl
set_option maxRecDepth 100000 in
theorem pm_okC_e40 : lw_tbl[pm_pl 40]? = some (Cond.code (pm_y 40) (pm_by 40) (pm_ml 40) (pm_rt 40)) := by rfl
set_option maxRecDepth 100000 in
theorem pm_okC_e41 : lw_tbl[pm_pl 41]? = some (Cond.code (pm_y 41) (pm_by 41) (pm_ml 41) (pm_rt 41)) := by rfl
set_option maxRecDepth 100000 in
theorem pm_okC_e42 : lw_tbl[pm_pl 42]? = some (Cond.code (pm_y 42) (pm_by 42) (pm_ml 42) (pm_rt 42)) := by rfl
set_option maxRecDepth 100000 in
theorem pm_okC_e43 : lw_tbl[pm_pl 43]? = some (Cond.code (pm_y 43) (pm_by 43) (pm_ml 43) (pm_rt 43)) := by rfl
set_option maxRecDepth 100000 in
theorem pm_okC_e44 : lw_tbl[pm_pl 44]? = some (Cond.code (pm_y 44) (pm_by 44) (pm_ml 44) (pm_rt 44)) := by rfl
set_option maxRecDepth 100000 in
theorem pm_okC_e45 : lw_tbl[pm_pl 45]? = some (Cond.code (pm_y 45) (pm_by 45) (pm_ml 45) (pm_rt 45)) := by rfl
set_option maxRecDepth 100000 in
theorem pm_okC_e46 : lw_tbl[pm_pl 46]? = some (Cond.code (pm_y 46) (pm_by 46) (pm_ml 46) (pm_rt 46)) := by rfl
set_option maxRecDepth 100000 in
theorem pm_okC_e47 : lw_tbl[pm_pl 47]? = some (Cond.code (pm_y 47) (pm_by 47) (pm_ml 47) (pm_rt 47)) := by rfl
set_option maxRecDepth 100000 in
theorem pm_okC_e48 : lw_tbl[pm_pl 48]? = some (Cond.code (pm_y 48) (pm_by 48) (pm_ml 48) (pm_rt 48)) := by rfl
set_option maxRecDepth 100000 in
theorem pm_okC_e49 : lw_tbl[pm_pl 49]? = some (Cond.code (pm_y 49) (pm_by 49) (pm_ml 49) (pm_rt 49)) := by rfl
set_option maxRecDepth 100000 in
theorem pm_okC_e50 : lw_tbl[pm_pl 50]? = some (Cond.code (pm_y 50) (pm_by 50) (pm_ml 50) (pm_rt 50)) := by rfl
set_option maxRecDepth 100000 in
theorem pm_okC_e51 : lw_tbl[pm_pl 51]? = some (Cond.code (pm_y 51) (pm_by 51) (pm_ml 51) (pm_rt 51)) := by rfl
set_option maxRecDepth 100000 in
theorem pm_okC_e52 : lw_tbl[pm_pl 52]? = some (Cond.code (pm_y 52) (pm_by 52) (pm_ml 52) (pm_rt 52)) := by rfl
set_option maxRecDepth 100000 in
theorem pm_okC_e53 : lw_tbl[pm_pl 53]? = some (Cond.code (pm_y 53) (pm_by 53) (pm_ml 53) (pm_rt 53)) := by rfl
set_option maxRecDepth 100000 in
theorem pm_okC_e54 : lw_tbl[pm_pl 54]? = some (Cond.code (pm_y 54) (pm_by 54) (pm_ml 54) (pm_rt 54)) := by rfl
set_option maxRecDepth 100000 in
theorem pm_okC_e55 : lw_tbl[pm_pl 55]? = some (Cond.code (pm_y 55) (pm_by 55) (pm_ml 55) (pm_rt 55)) := by rfl
set_option maxRecDepth 100000 in
theorem pm_okC_e56 : lw_tbl[pm_pl 56]? = some (Cond.code (pm_y 56) (pm_by 56) (pm_ml 56) (pm_rt 56)) := by rfl
set_option maxRecDepth 100000 in
theorem pm_okC_e57 : lw_tbl[pm_pl 57]? = some (Cond.code (pm_y 57) (pm_by 57) (pm_ml 57) (pm_rt 57)) := by rfl
set_option maxRecDepth 100000 in
theorem pm_okC_e58 : lw_tbl[pm_pl 58]? = some (Cond.code (pm_y 58) (pm_by 58) (pm_ml 58) (pm_rt 58)) := by rfl
set_option maxRecDepth 100000 in
theorem pm_okC_e59 : lw_tbl[pm_pl 59]? = some (Cond.code (pm_y 59) (pm_by 59) (pm_ml 59) (pm_rt 59)) := by rfl
theorem pm_okC_30 (b : Nat) (h1 : b ≥ 30) (h2 : b < 60) : lw_tbl[pm_pl b]? = some (Cond.code (pm_y b) (pm_by b) (pm_ml b) (pm_rt b)) := by
  rcases (by omega : b = 30 ∨ b = 31 ∨ b = 32 ∨ b = 33 ∨ b = 34 ∨ b = 35 ∨ b = 36 ∨ b = 37 ∨ b = 38 ∨ b = 39 ∨ b = 40 ∨ b = 41 ∨ b = 42 ∨ b = 43 ∨ b = 44 ∨ b = 45 ∨ b = 46 ∨ b = 47 ∨ b = 48 ∨ b = 49 ∨ b = 50 ∨ b = 51 ∨ b = 52 ∨ b = 53 ∨ b = 54 ∨ b = 55 ∨ b = 56 ∨ b = 57 ∨ b = 58 ∨ b = 59) with rfl | rfl | rfl | rfl | rfl | rfl | rfl | rfl | rfl | rfl | rfl | rfl | rfl | rfl | rfl | rfl | rfl | rfl | rfl | rfl | rfl | rfl | rfl | rfl | rfl | rfl | rfl | rfl | rfl | rfl
  · exact pm_okC_e30
  · exact pm_okC_e31
  · exact pm_okC_e32
  · exact pm_okC_e33
  · exact pm_okC_e34
  · exact pm_okC_e35
  · exact pm_okC_e36
  · exact pm_okC_e37
  · exact pm_okC_e38
  · exact pm_okC_e39
  · exact pm_okC_e40
  · exact pm_okC_e41
  · exact pm_okC_e42
  · exact pm_okC_e43
  · exact pm_okC_e44
  · exact pm_okC_e45
  · exact pm_okC_e46
  · exact pm_okC_e47
  · exact pm_okC_e48
  · exact pm_okC_e49
  · exact pm_okC_e50
  · exact pm_okC_e51
  · exact pm_okC_e52
  · exact pm_okC_e53
  · exact pm_okC_e54
  · exact pm_okC_e55
  · exact pm_okC_e56
  · exact pm_okC_e57
  · exact pm_okC_e58
  · exact pm_okC_e59
set_option maxRecDepth 100000 in
theorem pm_okC_e60 : lw_tbl[pm_pl 60]? = some (Cond.code (pm_y 60) (pm_by 60) (pm_ml 60) (pm_rt 60)) := by rfl
set_option maxRecDepth 100000 in
theorem pm_okC_e61 : lw_tbl[pm_pl 61]? = some (Cond.code (pm_y 61) (pm_by 61) (pm_ml 61) (pm_rt 61)) := by rfl
set_option maxRecDepth 100000 in
theorem pm_okC_e62 : lw_tbl[pm_pl 62]? = some (Cond.code (pm_y 62) (pm_by 62) (pm_ml 62) (pm_rt 62)) := by rfl
set_option maxRecDepth 100000 in
theorem pm_okC_e63 : lw_tbl[pm_pl 63]? = some (Cond.code (pm_y 63) (pm_by 63) (pm_ml 63) (pm_rt 63)) := by rfl
set_option maxRecDepth 100000 in
theorem pm_okC_e64 : lw_tbl[pm_pl 64]? = some (Cond.code (pm_y 64) (pm_by 64) (pm_ml 64) (pm_rt 64)) := by rfl
set_option maxRecDepth 100000 in
theorem pm_okC_e65 : lw_tbl[pm_pl 65]? = some (Cond.code (pm_y 65) (pm_by 65) (pm_ml 65) (pm_rt 65)) := by rfl
set_option maxRecDepth 100000 in
theorem pm_okC_e66 : lw_tbl[pm_pl 66]? = some (Cond.code (pm_y 66) (pm_by 66) (pm_ml 66) (pm_rt 66)) := by rfl
set_option maxRecDepth 100000 in
theorem pm_okC_e67 : lw_tbl[pm_pl 67]? = some (Cond.code (pm_y 67) (pm_by 67) (pm_ml 67) (pm_rt 67)) := by rfl
set_option maxRecDepth 100000 in
theorem pm_okC_e68 : lw_tbl[pm_pl 68]? = some (Cond.code (pm_y 68) (pm_by 68) (pm_ml 68) (pm_rt 68)) := by rfl
set_option maxRecDepth 100000 in
theorem pm_okC_e69 : lw_tbl[pm_pl 69]? = some (Cond.code (pm_y 69) (pm_by 69) (pm_ml 69) (pm_rt 69)) := by rfl
set_option maxRecDepth 100000 in
theorem pm_okC_e70 : lw_tbl[pm_pl 70]? = some (Cond.code (pm_y 70) (pm_by 70) (pm_ml 70) (pm_rt 70)) := by rfl
set_option maxRecDepth 100000 in
theorem pm_okC_e71 : lw_tbl[pm_pl 71]? = some (Cond.code (pm_y 71) (pm_by 71) (pm_ml 71) (pm_rt 71)) := by rfl
set_option maxRecDepth 100000 in
theorem pm_okC_e72 : lw_tbl[pm_pl 72]? = some (Cond.code (pm_y 72) (pm_by 72) (pm_ml 72) (pm_rt 72)) := by rfl
set_option maxRecDepth 100000 in
theorem pm_okC_e73 : lw_tbl[pm_pl 73]? = some (Cond.code (pm_y 73) (pm_by 73) (pm_ml 73) (pm_rt 73)) := by rfl
set_option maxRecDepth 100000 in
theorem pm_okC_e74 : lw_tbl[pm_pl 74]? = some (Cond.code (pm_y 74) (pm_by 74) (pm_ml 74) (pm_rt 74)) := by rfl
set_option maxRecDepth 100000 in
theorem pm_okC_e75 : lw_tbl[pm_pl 75]? = some (Cond.code (pm_y 75) (pm_by 75) (pm_ml 75) (pm_rt 75)) := by rfl
set_option maxRecDepth 100000 in
theorem pm_okC_e76 : lw_tbl[pm_pl 76]? = some (Cond.code (pm_y 76) (pm_by 76) (pm_ml 76) (pm_rt 76)) := by rfl
set_option maxRecDepth 100000 in
theorem pm_okC_e77 : lw_tbl[pm_pl 77]? = some (Cond.code (pm_y 77) (pm_by 77) (pm_ml 77) (pm_rt 77)) := by rfl
set_option maxRecDepth 100000 in
theorem pm_okC_e78 : lw_tbl[pm_pl 78]? = some (Cond.code (pm_y 78) (pm_by 78) (pm_ml 78) (pm_rt 78)) := by rfl
set_option maxRecDepth 100000 in
theorem pm_okC_e79 : lw_tbl[pm_pl 79]? = some (Cond.code (pm_y 79) (pm_by 79) (pm_ml 79) (pm_rt 79)) := by rfl
set_option maxRecDepth 100000 in
theorem pm_okC_e80 : lw_tbl[pm_pl 80]? = some (Cond.code (pm_y 80) (pm_by 80) (pm_ml 80) (pm_rt 80)) := by rfl
set_option maxRecDepth 100000 in
theorem pm_okC_e81 : lw_tbl[pm_pl 81]? = some (Cond.code (pm_y 81) (pm_by 81) (pm_ml 81) (pm_rt 81)) := by rfl
set_option maxRecDepth 100000 in
theorem pm_okC_e82 : lw_tbl[pm_pl 82]? = some (Cond.code (pm_y 82) (pm_by 82) (pm_ml 82) (pm_rt 82)) := by rfl
set_option maxRecDepth 100000 in
theorem pm_okC_e83 : lw_tbl[pm_pl 83]? = some (Cond.code (pm_y 83) (pm_by 83) (pm_ml 83) (pm_rt 83)) := by rfl
set_option maxRecDepth 100000 in
theorem pm_okC_e84 : lw_tbl[pm_pl 84]? = some (Cond.code (pm_y 84) (pm_by 84) (pm_ml 84) (pm_rt 84)) := by rfl
set_option maxRecDepth 100000 in
theorem pm_okC_e85 : lw_tbl[pm_pl 85]? = some (Cond.code (pm_y 85) (pm_by 85) (pm_ml 85) (pm_rt 85)) := by rfl
set_option maxRecDepth 100000 in
theorem pm_okC_e86 : lw_tbl[pm_pl 86]? = some (Cond.code (pm_y 86) (pm_by 86) (pm_ml 86) (pm_rt 86)) := by rfl
set_option maxRecDepth 100000 in
theorem pm_okC_e87 : lw_tbl[pm_pl 87]? = some (Cond.code (pm_y 87) (pm_by 87) (pm_ml 87) (pm_rt 87)) := by rfl
set_option maxRecDepth 100000 in
theorem pm_okC_e88 : lw_tbl[pm_pl 88]? = some (Cond.code (pm_y 88) (pm_by 88) (pm_ml 88) (pm_rt 88)) := by rfl
set_option maxRecDepth 100000 in
theorem pm_okC_e89 : lw_tbl[pm_pl 89]? = some (Cond.code (pm_y 89) (pm_by 89) (pm_ml 89) (pm_rt 89)) := by rfl
theorem pm_okC_60 (b : Nat) (h1 : b ≥ 60) (h2 : b < 90) : lw_tbl[pm_pl b]? = some (Cond.code (pm_y b) (pm_by b) (pm_ml b) (pm_rt b)) := by
  rcases (by omega : b = 60 ∨ b = 61 ∨ b = 62 ∨ b = 63 ∨ b = 64 ∨ b = 65 ∨ b = 66 ∨ b = 67 ∨ b = 68 ∨ b = 69 ∨ b = 70 ∨ b = 71 ∨ b = 72 ∨ b = 73 ∨ b = 74 ∨ b = 75 ∨ b = 76 ∨ b = 77 ∨ b = 78 ∨ b = 79 ∨ b = 80 ∨ b = 81 ∨ b = 82 ∨ b = 83 ∨ b = 84 ∨ b = 85 ∨ b = 86 ∨ b = 87 ∨ b = 88 ∨ b = 89) with rfl | rfl | rfl | rfl | rfl | rfl | rfl | rfl | rfl | rfl | rfl | rfl | rfl | rfl | rfl | rfl | rfl | rfl | rfl | rfl | rfl | rfl | rfl | rfl | rfl | rfl | rfl | rfl | rfl | rfl
  · exact pm_okC_e60
  · exact pm_okC_e61
  · exact pm_okC_e62
  · exact pm_okC_e63
  · exact pm_okC_e64
  · exact pm_okC_e65
  · exact pm_okC_e66
  · exact pm_okC_e67
  · exact pm_okC_e68
  · exact pm_okC_e69
  · exact pm_okC_e70
  · exact pm_okC_e71
  · exact pm_okC_e72
  · exact pm_okC_e73
  · exact pm_okC_e74
  · exact pm_okC_e75
  · exact pm_okC_e76
  · exact pm_okC_e77
  · exact pm_okC_e78
  · exact pm_okC_e79
  · exact pm_okC_e80
  · exact pm_okC_e81
  · exact pm_okC_e82
  · exact pm_okC_e83
  · exact pm_okC_e84
  · exact pm_okC_e85
  · exact pm_okC_e86
  · exact pm_okC_e87
  · exact pm_okC_e88
  · exact pm_okC_e89
set_option maxRecDepth 100000 in
theorem pm_okC_e90 : lw_tbl[pm_pl 90]? = some (Cond.code (pm_y 90) (pm_by 90) (pm_ml 90) (pm_rt 90)) := by rfl
set_option maxRecDepth 100000 in
theorem pm_okC_e91 : lw_tbl[pm_pl 91]? = some (Cond.code (pm_y 91) (pm_by 91) (pm_ml 91) (pm_rt 91)) := by rfl
set_option maxRecDepth 100000 in
theorem pm_okC_e92 : lw_tbl[pm_pl 92]? = some (Cond.code (pm_y 92) (pm_by 92) (pm_ml 92) (pm_rt 92)) := by rfl
set_option maxRecDepth 100000 in
theorem pm_okC_e93 : lw_tbl[pm_pl 93]? = some (Cond.code (pm_y 93) (pm_by 93) (pm_ml 93) (pm_rt 93)) := by rfl
set_option maxRecDepth 100000 in
theorem pm_okC_e94 : lw_tbl[pm_pl 94]? = some (Cond.code (pm_y 94) (pm_by 94) (pm_ml 94) (pm_rt 94)) := by rfl
set_option maxRecDepth 100000 in
theorem pm_okC_e95 : lw_tbl[pm_pl 95]? = some (Cond.code (pm_y 95) (pm_by 95) (pm_ml 95) (pm_rt 95)) := by rfl
set_option maxRecDepth 100000 in
theorem pm_okC_e96 : lw_tbl[pm_pl 96]? = some (Cond.code (pm_y 96) (pm_by 96) (pm_ml 96) (pm_rt 96)) := by rfl
set_option maxRecDepth 100000 in
theorem pm_okC_e97 : lw_tbl[pm_pl 97]? = some (Cond.code (pm_y 97) (pm_by 97) (pm_ml 97) (pm_rt 97)) := by rfl
set_option maxRecDepth 100000 in
theorem pm_okC_e98 : lw_tbl[pm_pl 98]? = some (Cond.code (pm_y 98) (pm_by 98) (pm_ml 98) (pm_rt 98)) := by rfl
set_option maxRecDepth 100000 in
theorem pm_okC_e99 : lw_tbl[pm_pl 99]? = some (Cond.code (pm_y 99) (pm_by 99) (pm_ml 99) (pm_rt 99)) := by rfl
set_option maxRecDepth 100000 in
theorem pm_okC_e100 : lw_tbl[pm_pl 100]? = some (Cond.code (pm_y 100) (pm_by 100) (pm_ml 100) (pm_rt 100)) := by rfl
set_option maxRecDepth 100000 in
theorem pm_okC_e101 : lw_tbl[pm_pl 101]? = some (Cond.code (pm_y 101) (pm_by 101) (pm_ml 101) (pm_rt 101)) := by rfl
set_option maxRecDepth 100000 in
theorem pm_okC_e102 : lw_tbl[pm_pl 102]? = some (Cond.code (pm_y 102) (pm_by 102) (pm_ml 102) (pm_rt 102)) := by rfl
set_option maxRecDepth 100000 in
theorem pm_okC_e103 : lw_tbl[pm_pl 103]? = some (Cond.code (pm_y 103) (pm_by 103) (pm_ml 103) (pm_rt 103)) := by rfl
set_option maxRecDepth 100000 in
theorem pm_okC_e104 : lw_tbl[pm_pl 104]? = some (Cond.code (pm_y 104) (pm_by 104) (pm_ml 104) (pm_rt 104)) := by rfl
set_option maxRecDepth 100000 in
theorem pm_okC_e105 : lw_tbl[pm_pl 105]? = some (Cond.code (pm_y 105) (pm_by 105) (pm_ml 105) (pm_rt 105)) := by rfl
set_option maxRecDepth 100000 in
theorem pm_okC_e106 : lw_tbl[pm_pl 106]? = some (Cond.code (pm_y 106) (pm_by 106) (pm_ml 106) (pm_rt 106)) := by rfl
set_option maxRecDepth 100000 in
theorem pm_okC_e107 : lw_tbl[pm_pl 107]? = some (Cond.code (pm_y 107) (pm_by 107) (pm_ml 107) (pm_rt 107)) := by rfl
set_option maxRecDepth 100000 in
theorem pm_okC_e108 : lw_tbl[pm_pl 108]? = some (Cond.code (pm_y 108) (pm_by 108) (pm_ml 108) (pm_rt 108)) := by rfl
set_option maxRecDepth 100000 in
theorem pm_okC_e109 : lw_tbl[pm_pl 109]? = some (Cond.code (pm_y 109) (pm_by 109) (pm_ml 109) (pm_rt 109)) := by rfl
set_option maxRecDepth 100000 in
theorem pm_okC_e110 : lw_tbl[pm_pl 110]? = some (Cond.code (pm_y 110) (pm_by 110) (pm_ml 110) (pm_rt 110)) := by rfl
set_option maxRecDepth 100000 in
theorem pm_okC_e111 : lw_tbl[pm_pl 111]? = some (Cond.code (pm_y 111) (pm_by 111) (pm_ml 111) (pm_rt 111)) := by rfl
set_option maxRecDepth 100000 in
theorem pm_okC_e112 : lw_tbl[pm_pl 112]? = some (Cond.code (pm_y 112) (pm_by 112) (pm_ml 112) (pm_rt 112)) := by rfl
set_option maxRecDepth 100000 in
theorem pm_okC_e113 : lw_tbl[pm_pl 113]? = some (Cond.code (pm_y 113) (pm_by 113) (pm_ml 113) (pm_rt 113)) := by rfl
set_option maxRecDepth 100000 in
theorem pm_okC_e114 : lw_tbl[pm_pl 114]? = some (Cond.code (pm_y 114) (pm_by 114) (pm_ml 114) (pm_rt 114)) := by rfl
set_option maxRecDepth 100000 in
theorem pm_okC_e115 : lw_tbl[pm_pl 115]? = some (Cond.code (pm_y 115) (pm_by 115) (pm_ml 115) (pm_rt 115)) := by rfl
set_option maxRecDepth 100000 in
theorem pm_okC_e116 : lw_tbl[pm_pl 116]? = some (Cond.code (pm_y 116) (pm_by 116) (pm_ml 116) (pm_rt 116)) := by rfl
set_option maxRecDepth 100000 in
theorem pm_okC_e117 : lw_tbl[pm_pl 117]? = some (Cond.code (pm_y 117) (pm_by 117) (pm_ml 117) (pm_rt 117)) := by rfl
set_option maxRecDepth 100000 in
theorem pm_okC_e118 : lw_tbl[pm_pl 118]? = some (Cond.code (pm_y 118) (pm_by 118) (pm_ml 118) (pm_rt 118)) := by rfl
set_option maxRecDepth 100000 in
theorem pm_okC_e119 : lw_tbl[pm_pl 119]? = some (Cond.code (pm_y 119) (pm_by 119) (pm_ml 119) (pm_rt 119)) := by rfl
theorem pm_okC_90 (b : Nat) (h1 : b ≥ 90) (h2 : b < 120) : lw_tbl[pm_pl b]? = some (Cond.code (pm_y b) (pm_by b) (pm_ml b) (pm_rt b)) := by
  rcases (by omega : b = 90 ∨ b = 91 ∨ b = 92 ∨ b = 93 ∨ b = 94 ∨ b = 95 ∨ b = 96 ∨ b = 97 ∨ b = 98 ∨ b = 99 ∨ b = 100 ∨ b = 101 ∨ b = 102 ∨ b = 103 ∨ b = 104 ∨ b = 105 ∨ b = 106 ∨ b = 107 ∨ b = 108 ∨ b = 109 ∨ b = 110 ∨ b = 111 ∨ b = 112 ∨ b = 113 ∨ b = 114 ∨ b = 115 ∨ b = 116 ∨ b = 117 ∨ b = 118 ∨ b = 119) with rfl | rfl | rfl | rfl | rfl | rfl | rfl | rfl | rfl | rfl | rfl | rfl | rfl | rfl | rfl | rfl | rfl | rfl | rfl | rfl | rfl | rfl | rfl | rfl | rfl | rfl | rfl | rfl | rfl | rfl
  · exact pm_okC_e90
  · exact pm_okC_e91
  · exact pm_okC_e92
  · exact pm_okC_e93
  · exact pm_okC_e94
  · exact pm_okC_e95
  · exact pm_okC_e96
  · exact pm_okC_e97
  · exact pm_okC_e98
  · exact pm_okC_e99
  · exact pm_okC_e100
  · exact pm_okC_e101
  · exact pm_okC_e102
  · exact pm_okC_e103
  · exact pm_okC_e104
  · exact pm_okC_e105
  · exact pm_okC_e106
  · exact pm_okC_e107
  · exact pm_okC_e108
  · exact pm_okC_e109
  · exact pm_okC_e110
  · exact pm_okC_e111
  · exact pm_okC_e112
  · exact pm_okC_e113
  · exact pm_okC_e114
  · exact pm_okC_e115
  · exact pm_okC_e116
  · exact pm_okC_e117
  · exact pm_okC_e118
  · exact pm_okC_e119
set_option maxRecDepth 100000 in
theorem pm_okC_e120 : lw_tbl[pm_pl 120]? = some (Cond.code (pm_y 120) (pm_by 120) (pm_ml 120) (pm_rt 120)) := by rfl
set_option maxRecDepth 100000 in
theorem pm_okC_e121 : lw_tbl[pm_pl 121]? = some (Cond.code (pm_y 121) (pm_by 121) (pm_ml 121) (pm_rt 121)) := by rfl
set_option maxRecDepth 100000 in
theorem pm_okC_e122 : lw_tbl[pm_pl 122]? = some (Cond.code (pm_y 122) (pm_by 122) (pm_ml 122) (pm_rt 122)) := by rfl
set_option maxRecDepth 100000 in
theorem pm_okC_e123 : lw_tbl[pm_pl 123]? = some (Cond.code (pm_y 123) (pm_by 123) (pm_ml 123) (pm_rt 123)) := by rfl
set_option maxRecDepth 100000 in
theorem pm_okC_e124 : lw_tbl[pm_pl 124]? = some (Cond.code (pm_y 124) (pm_by 124) (pm_ml 124) (pm_rt 124)) := by rfl
set_option maxRecDepth 100000 in
theorem pm_okC_e125 : lw_tbl[pm_pl 125]? = some (Cond.code (pm_y 125) (pm_by 125) (pm_ml 125) (pm_rt 125)) := by rfl
set_option maxRecDepth 100000 in
theorem pm_okC_e126 : lw_tbl[pm_pl 126]? = some (Cond.code (pm_y 126) (pm_by 126) (pm_ml 126) (pm_rt 126)) := by rfl
set_option maxRecDepth 100000 in
theorem pm_okC_e127 : lw_tbl[pm_pl 127]? = some (Cond.code (pm_y 127) (pm_by 127) (pm_ml 127) (pm_rt 127)) := by rfl
set_option maxRecDepth 100000 in
theorem pm_okC_e128 : lw_tbl[pm_pl 128]? = some (Cond.code (pm_y 128) (pm_by 128) (pm_ml 128) (pm_rt 128)) := by rfl
set_option maxRecDepth 100000 in
theorem pm_okC_e129 : lw_tbl[pm_pl 129]? = some (Cond.code (pm_y 129) (pm_by 129) (pm_ml 129) (pm_rt 129)) := by rfl
set_option maxRecDepth 100000 in
theorem pm_okC_e130 : lw_tbl[pm_pl 130]? = some (Cond.code (pm_y 130) (pm_by 130) (pm_ml 130) (pm_rt 130)) := by rfl
set_option maxRecDepth 100000 in
theorem pm_okC_e131 : lw_tbl[pm_pl 131]? = some (Cond.code (pm_y 131) (pm_by 131) (pm_ml 131) (pm_rt 131)) := by rfl
set_option maxRecDepth 100000 in
theorem pm_okC_e132 : lw_tbl[pm_pl 132]? = some (Cond.code (pm_y 132) (pm_by 132) (pm_ml 132) (pm_rt 132)) := by rfl
set_option maxRecDepth 100000 in
theorem pm_okC_e133 : lw_tbl[pm_pl 133]? = some (Cond.code (pm_y 133) (pm_by 133) (pm_ml 133) (pm_rt 133)) := by rfl
set_option maxRecDepth 100000 in
theorem pm_okC_e134 : lw_tbl[pm_pl 134]? = some (Cond.code (pm_y 134) (pm_by 134) (pm_ml 134) (pm_rt 134)) := by rfl
set_option maxRecDepth 100000 in
theorem pm_okC_e135 : lw_tbl[pm_pl 135]? = some (Cond.code (pm_y 135) (pm_by 135) (pm_ml 135) (pm_rt 135)) := by rfl
set_option maxRecDepth 100000 in
theorem pm_okC_e136 : lw_tbl[pm_pl 136]? = some (Cond.code (pm_y 136) (pm_by 136) (pm_ml 136) (pm_rt 136)) := by rfl
set_option maxRecDepth 100000 in
theorem pm_okC_e137 : lw_tbl[pm_pl 137]? = some (Cond.code (pm_y 137) (pm_by 137) (pm_ml 137) (pm_rt 137)) := by rfl
set_option maxRecDepth 100000 in
theorem pm_okC_e138 : lw_tbl[pm_pl 138]? = some (Cond.code (pm_y 138) (pm_by 138) (pm_ml 138) (pm_rt 138)) := by rfl
set_option maxRecDepth 100000 in
theorem pm_okC_e139 : lw_tbl[pm_pl 139]? = some (Cond.code (pm_y 139) (pm_by 139) (pm_ml 139) (pm_rt 139)) := by rfl
set_option maxRecDepth 100000 in
theorem pm_okC_e140 : lw_tbl[pm_pl 140]? = some (Cond.code (pm_y 140) (pm_by 140) (pm_ml 140) (pm_rt 140)) := by rfl
set_option maxRecDepth 100000 in
theorem pm_okC_e141 : lw_tbl[pm_pl 141]? = some (Cond.code (pm_y 141) (pm_by 141) (pm_ml 141) (pm_rt 141)) := by rfl
set_option maxRecDepth 100000 in
theorem pm_okC_e142 : lw_tbl[pm_pl 142]? = some (Cond.code (pm_y 142) (pm_by 142) (pm_ml 142) (pm_rt 142)) := by rfl
set_option maxRecDepth 100000 in
theorem pm_okC_e143 : lw_tbl[pm_pl 143]? = some (Cond.code (pm_y 143) (pm_by 143) (pm_ml 143) (pm_rt 143)) := by rfl
set_option maxRecDepth 100000 in
theorem pm_okC_e144 : lw_tbl[pm_pl 144]? = some (Cond.code (pm_y 144) (pm_by 144) (pm_ml 144) (pm_rt 144)) := by rfl
set_option maxRecDepth 100000 in
theorem pm_okC_e145 : lw_tbl[pm_pl 145]? = some (Cond.code (pm_y 145) (pm_by 145) (pm_ml 145) (pm_rt 145)) := by rfl
set_option maxRecDepth 100000 in
theorem pm_okC_e146 : lw_tbl[pm_pl 146]? = some (Cond.code (pm_y 146) (pm_by 146) (pm_ml 146) (pm_rt 146)) := by rfl
set_option maxRecDepth 100000 in
theorem pm_okC_e147 : lw_tbl[pm_pl 147]? = some (Cond.code (pm_y 147) (pm_by 147) (pm_ml 147) (pm_rt 147)) := by rfl
set_option maxRecDepth 100000 in
theorem pm_okC_e148 : lw_tbl[pm_pl 148]? = some (Cond.code (pm_y 148) (pm_by 148) (pm_ml 148) (pm_rt 148)) := by rfl
set_option maxRecDepth 100000 in
theorem pm_okC_e149 : lw_tbl[pm_pl 149]? = some (Cond.code (pm_y 149) (pm_by 149) (pm_ml 149) (pm_rt 149)) := by rfl
theorem pm_okC_120 (b : Nat) (h1 : b ≥ 120) (h2 : b < 150) : lw_tbl[pm_pl b]? = some (Cond.code (pm_y b) (pm_by b) (pm_ml b) (pm_rt b)) := by
  rcases (by omega : b = 120 ∨ b = 121 ∨ b = 122 ∨ b = 123 ∨ b = 124 ∨ b = 125 ∨ b = 126 ∨ b = 127 ∨ b = 128 ∨ b = 129 ∨ b = 130 ∨ b = 131 ∨ b = 132 ∨ b = 133 ∨ b = 134 ∨ b = 135 ∨ b = 136 ∨ b = 137 ∨ b = 138 ∨ b = 139 ∨ b = 140 ∨ b = 141 ∨ b = 142 ∨ b = 143 ∨ b = 144 ∨ b = 145 ∨ b = 146 ∨ b = 147 ∨ b = 148 ∨ b = 149) with rfl | rfl | rfl | rfl | rfl | rfl | rfl | rfl | rfl | rfl | rfl | rfl | rfl | rfl | rfl | rfl | rfl | rfl | rfl | rfl | rfl | rfl | rfl | rfl | rfl | rfl | rfl | rfl | rfl | rfl
  · exact pm_okC_e120
  · exact pm_okC_e121
  · exact pm_okC_e122
  · exact pm_okC_e123
  · exact pm_okC_e124
  · exact pm_okC_e125
  · exact pm_okC_e126
  · exact pm_okC_e127
  · exact pm_okC_e128
  · exact pm_okC_e129
  · exact pm_okC_e130
  · exact pm_okC_e131
  · exact pm_okC_e132
  · exact pm_okC_e133
  · exact pm_okC_e134
  · exact pm_okC_e135
  · exact pm_okC_e136
  · exact pm_okC_e137
  · exact pm_okC_e138
  · exact pm_okC_e139
  · exact pm_okC_e140
  · exact pm_okC_e141
  · exact pm_okC_e142
  · exact pm_okC_e143
  · exact pm_okC_e144
  · exact pm_okC_e145
  · exact pm_okC_e146
  · exact pm_okC_e147
  · exact pm_okC_e148
  · exact pm_okC_e149
set_option maxRecDepth 100000 in
theorem pm_okC_e150 : lw_tbl[pm_pl 150]? = some (Cond.code (pm_y 150) (pm_by 150) (pm_ml 150) (pm_rt 150)) := by rfl
set_option maxRecDepth 100000 in
theorem pm_okC_e151 : lw_tbl[pm_pl 151]? = some (Cond.code (pm_y 151) (pm_by 151) (pm_ml 151) (pm_rt 151)) := by rfl
set_option maxRecDepth 100000 in
theorem pm_okC_e152 : lw_tbl[pm_pl 152]? = some (Cond.code (pm_y 152) (pm_by 152) (pm_ml 152) (pm_rt 152)) := by rfl
set_option maxRecDepth 100000 in
theorem pm_okC_e153 : lw_tbl[pm_pl 153]? = some (Cond.code (pm_y 153) (pm_by 153) (pm_ml 153) (pm_rt 153)) := by rfl
set_option maxRecDepth 100000 in
theorem pm_okC_e154 : lw_tbl[pm_pl 154]? = some (Cond.code (pm_y 154) (pm_by 154) (pm_ml 154) (pm_rt 154)) := by rfl
set_option maxRecDepth 100000 in
theorem pm_okC_e155 : lw_tbl[pm_pl 155]? = some (Cond.code (pm_y 155) (pm_by 155) (pm_ml 155) (pm_rt 155)) := by rfl
set_option maxRecDepth 100000 in
theorem pm_okC_e156 : lw_tbl[pm_pl 156]? = some (Cond.code (pm_y 156) (pm_by 156) (pm_ml 156) (pm_rt 156)) := by rfl
set_option maxRecDepth 100000 in
theorem pm_okC_e157 : lw_tbl[pm_pl 157]? = some (Cond.code (pm_y 157) (pm_by 157) (pm_ml 157) (pm_rt 157)) := by rfl
set_option maxRecDepth 100000 in
theorem pm_okC_e158 : lw_tbl[pm_pl 158]? = some (Cond.code (pm_y 158) (pm_by 158) (pm_ml 158) (pm_rt 158)) := by rfl
set_option maxRecDepth 100000 in
theorem pm_okC_e159 : lw_tbl[pm_pl 159]? = some (Cond.code (pm_y 159) (pm_by 159) (pm_ml 159) (pm_rt 159)) := by rfl
set_option maxRecDepth 100000 in
theorem pm_okC_e160 : lw_tbl[pm_pl 160]? = some (Cond.code (pm_y 160) (pm_by 160) (pm_ml 160) (pm_rt 160)) := by rfl
set_option maxRecDepth 100000 in
theorem pm_okC_e161 : lw_tbl[pm_pl 161]? = some (Cond.code (pm_y 161) (pm_by 161) (pm_ml 161) (pm_rt 161)) := by rfl
set_option maxRecDepth 100000 in
theorem pm_okC_e162 : lw_tbl[pm_pl 162]? = some (Cond.code (pm_y 162) (pm_by 162) (pm_ml 162) (pm_rt 162)) := by rfl
set_option maxRecDepth 100000 in
theorem pm_okC_e163 : lw_tbl[pm_pl 163]? = some (Cond.code (pm_y 163) (pm_by 163) (pm_ml 163) (pm_rt 163)) := by rfl
set_option maxRecDepth 100000 in
theorem pm_okC_e164 : lw_tbl[pm_pl 164]? = some (Cond.code (pm_y 164) (pm_by 164) (pm_ml 164) (pm_rt 164)) := by rfl
set_option maxRecDepth 100000 in
theorem pm_okC_e165 : lw_tbl[pm_pl 165]? = some (Cond.code (pm_y 165) (pm_by 165) (pm_ml 165) (pm_rt 165)) := by rfl
set_option maxRecDepth 100000 in
theorem pm_okC_e166 : lw_tbl[pm_pl 166]? = some (Cond.code (pm_y 166) (pm_by 166) (pm_ml 166) (pm_rt 166)) := by rfl
set_option maxRecDepth 100000 in
theorem pm_okC_e167 : lw_tbl[pm_pl 167]? = some (Cond.code (pm_y 167) (pm_by 167) (pm_ml 167) (pm_rt 167)) := by rfl
set_option maxRecDepth 100000 in
theorem pm_okC_e168 : lw_tbl[pm_pl 168]? = some (Cond.code (pm_y 168) (pm_by 168) (pm_ml 168) (pm_rt 168)) := by rfl
set_option maxRecDepth 100000 in
theorem pm_okC_e169 : lw_tbl[pm_pl 169]? = some (Cond.code (pm_y 169) (pm_by 169) (pm_ml 169) (pm_rt 169)) := by rfl
set_option maxRecDepth 100000 in
theorem pm_okC_e170 : lw_tbl[pm_pl 170]? = some (Cond.code (pm_y 170) (pm_by 170) (pm_ml 170) (pm_rt 170)) := by rfl
set_option maxRecDepth 100000 in
theorem pm_okC_e171 : lw_tbl[pm_pl 171]? = some (Cond.code (pm_y 171) (pm_by 171) (pm_ml 171) (pm_rt 171)) := by rfl
set_option maxRecDepth 100000 in
theorem pm_okC_e172 : lw_tbl[pm_pl 172]? = some (Cond.code (pm_y 172) (pm_by 172) (pm_ml 172) (pm_rt 172)) := by rfl
set_option maxRecDepth 100000 in
theorem pm_okC_e173 : lw_tbl[pm_pl 173]? = some (Cond.code (pm_y 173) (pm_by 173) (pm_ml 173) (pm_rt 173)) := by rfl
set_option maxRecDepth 100000 in
theorem pm_okC_e174 : lw_tbl[pm_pl 174]? = some (Cond.code (pm_y 174) (pm_by 174) (pm_ml 174) (pm_rt 174)) := by rfl
set_option maxRecDepth 100000 in
theorem pm_okC_e175 : lw_tbl[pm_pl 175]? = some (Cond.code (pm_y 175) (pm_by 175) (pm_ml 175) (pm_rt 175)) := by rfl
set_option maxRecDepth 100000 in
theorem pm_okC_e176 : lw_tbl[pm_pl 176]? = some (Cond.code (pm_y 176) (pm_by 176) (pm_ml 176) (pm_rt 176)) := by rfl
set_option maxRecDepth 100000 in
theorem pm_okC_e177 : lw_tbl[pm_pl 177]? = some (Cond.code (pm_y 177) (pm_by 177) (pm_ml 177) (pm_rt 177)) := by rfl
set_option maxRecDepth 100000 in
theorem pm_okC_e178 : lw_tbl[pm_pl 178]? = some (Cond.code (pm_y 178) (pm_by 178) (pm_ml 178) (pm_rt 178)) := by rfl
set_option maxRecDepth 100000 in
theorem pm_okC_e179 : lw_tbl[pm_pl 179]? = some (Cond.code (pm_y 179) (pm_by 179) (pm_ml 179) (pm_rt 179)) := by rfl
theorem pm_okC_150 (b : Nat) (h1 : b ≥ 150) (h2 : b < 180) : lw_tbl[pm_pl b]? = some (Cond.code (pm_y b) (pm_by b) (pm_ml b) (pm_rt b)) := by
  rcases (by omega : b = 150 ∨ b = 151 ∨ b = 152 ∨ b = 153 ∨ b = 154 ∨ b = 155 ∨ b = 156 ∨ b = 157 ∨ b = 158 ∨ b = 159 ∨ b = 160 ∨ b = 161 ∨ b = 162 ∨ b = 163 ∨ b = 164 ∨ b = 165 ∨ b = 166 ∨ b = 167 ∨ b = 168 ∨ b = 169 ∨ b = 170 ∨ b = 171 ∨ b = 172 ∨ b = 173 ∨ b = 174 ∨ b = 175 ∨ b = 176 ∨ b = 177 ∨ b = 178 ∨ b = 179) with rfl | rfl | rfl | rfl | rfl | rfl | rfl | rfl | rfl | rfl | rfl | rfl | rfl | rfl | rfl | rfl | rfl | rfl | rfl | rfl | rfl | rfl | rfl | rfl | rfl | rfl | rfl | rfl | rfl | rfl
  · exact pm_okC_e150
  · exact pm_okC_e151
  · exact pm_okC_e152
  · exact pm_okC_e153
  · exact pm_okC_e154
  · exact pm_okC_e155
  · exact pm_okC_e156
  · exact pm_okC_e157
  · exact pm_okC_e158
  · exact pm_okC_e159
  · exact pm_okC_e160
  · exact pm_okC_e161
  · exact pm_okC_e162
  · exact pm_okC_e163
  · exact pm_okC_e164
  · exact pm_okC_e165
  · exact pm_okC_e166
  · exact pm_okC_e167
  · exact pm_okC_e168
  · exact pm_okC_e169
  · exact pm_okC_e170
  · exact pm_okC_e171
  · exact pm_okC_e172
  · exact pm_okC_e173
  · exact pm_okC_e174
  · exact pm_okC_e175
  · exact pm_okC_e176
  · exact pm_okC_e177
  · exact pm_okC_e178
  · exact pm_okC_e179
set_option maxRecDepth 100000 in
theorem pm_okC_e180 : lw_tbl[pm_pl 180]? = some (Cond.code (pm_y 180) (pm_by 180) (pm_ml 180) (pm_rt 180)) := by rfl
set_option maxRecDepth 100000 in
theorem pm_okC_e181 : lw_tbl[pm_pl 181]? = some (Cond.code (pm_y 181) (pm_by 181) (pm_ml 181) (pm_rt 181)) := by rfl
set_option maxRecDepth 100000 in
theorem pm_okC_e182 : lw_tbl[pm_pl 182]? = some (Cond.code (pm_y 182) (pm_by 182) (pm_ml 182) (pm_rt 182)) := by rfl
set_option maxRecDepth 100000 in
theorem pm_okC_e183 : lw_tbl[pm_pl 183]? = some (Cond.code (pm_y 183) (pm_by 183) (pm_ml 183) (pm_rt 183)) := by rfl
set_option maxRecDepth 100000 in
theorem pm_okC_e184 : lw_tbl[pm_pl 184]? = some (Cond.code (pm_y 184) (pm_by 184) (pm_ml 184) (pm_rt 184)) := by rfl
set_option maxRecDepth 100000 in
theorem pm_okC_e185 : lw_tbl[pm_pl 185]? = some (Cond.code (pm_y 185) (pm_by 185) (pm_ml 185) (pm_rt 185)) := by rfl
set_option maxRecDepth 100000 in
theorem pm_okC_e186 : lw_tbl[pm_pl 186]? = some (Cond.code (pm_y 186) (pm_by 186) (pm_ml 186) (pm_rt 186)) := by rfl
set_option maxRecDepth 100000 in
theorem pm_okC_e187 : lw_tbl[pm_pl 187]? = some (Cond.code (pm_y 187) (pm_by 187) (pm_ml 187) (pm_rt 187)) := by rfl
set_option maxRecDepth 100000 in
theorem pm_okC_e188 : lw_tbl[pm_pl 188]? = some (Cond.code (pm_y 188) (pm_by 188) (pm_ml 188) (pm_rt 188)) := by rfl
set_option maxRecDepth 100000 in
theorem pm_okC_e189 : lw_tbl[pm_pl 189]? = some (Cond.code (pm_y 189) (pm_by 189) (pm_ml 189) (pm_rt 189)) := by rfl
set_option maxRecDepth 100000 in
theorem pm_okC_e190 : lw_tbl[pm_pl 190]? = some (Cond.code (pm_y 190) (pm_by 190) (pm_ml 190) (pm_rt 190)) := by rfl
set_option maxRecDepth 100000 in
theorem pm_okC_e191 : lw_tbl[pm_pl 191]? = some (Cond.code (pm_y 191) (pm_by 191) (pm_ml 191) (pm_rt 191)) := by rfl
set_option maxRecDepth 100000 in
theorem pm_okC_e192 : lw_tbl[pm_pl 192]? = some (Cond.code (pm_y 192) (pm_by 192) (pm_ml 192) (pm_rt 192)) := by rfl
set_option maxRecDepth 100000 in
theorem pm_okC_e193 : lw_tbl[pm_pl 193]? = some (Cond.code (pm_y 193) (pm_by 193) (pm_ml 193) (pm_rt 193)) := by rfl
set_option maxRecDepth 100000 in
theorem pm_okC_e194 : lw_tbl[pm_pl 194]? = some (Cond.code (pm_y 194) (pm_by 194) (pm_ml 194) (pm_rt 194)) := by rfl
set_option maxRecDepth 100000 in
theorem pm_okC_e195 : lw_tbl[pm_pl 195]? = some (Cond.code (pm_y 195) (pm_by 195) (pm_ml 195) (pm_rt 195)) := by rfl
set_option maxRecDepth 100000 in
theorem pm_okC_e196 : lw_tbl[pm_pl 196]? = some (Cond.code (pm_y 196) (pm_by 196) (pm_ml 196) (pm_rt 196)) := by rfl
set_option maxRecDepth 100000 in
theorem pm_okC_e197 : lw_tbl[pm_pl 197]? = some (Cond.code (pm_y 197) (pm_by 197) (pm_ml 197) (pm_rt 197)) := by rfl
set_option maxRecDepth 100000 in
theorem pm_okC_e198 : lw_tbl[pm_pl 198]? = some (Cond.code (pm_y 198) (pm_by 198) (pm_ml 198) (pm_rt 198)) := by rfl
set_option maxRecDepth 100000 in
theorem pm_okC_e199 : lw_tbl[pm_pl 199]? = some (Cond.code (pm_y 199) (pm_by 199) (pm_ml 199) (pm_rt 199)) := by rfl
set_option maxRecDepth 100000 in
theorem pm_okC_e200 : lw_tbl[pm_pl 200]? = some (Cond.code (pm_y 200) (pm_by 200) (pm_ml 200) (pm_rt 200)) := by rfl
set_option maxRecDepth 100000 in
theorem pm_okC_e201 : lw_tbl[pm_pl 201]? = some (Cond.code (pm_y 201) (pm_by 201) (pm_ml 201) (pm_rt 201)) := by rfl
set_option maxRecDepth 100000 in
theorem pm_okC_e202 : lw_tbl[pm_pl 202]? = some (Cond.code (pm_y 202) (pm_by 202) (pm_ml 202) (pm_rt 202)) := by rfl
set_option maxRecDepth 100000 in
theorem pm_okC_e203 : lw_tbl[pm_pl 203]? = some (Cond.code (pm_y 203) (pm_by 203) (pm_ml 203) (pm_rt 203)) := by rfl
set_option maxRecDepth 100000 in
theorem pm_okC_e204 : lw_tbl[pm_pl 204]? = some (Cond.code (pm_y 204) (pm_by 204) (pm_ml 204) (pm_rt 204)) := by rfl
set_option maxRecDepth 100000 in
theorem pm_okC_e205 : lw_tbl[pm_pl 205]? = some (Cond.code (pm_y 205) (pm_by 205) (pm_ml 205) (pm_rt 205)) := by rfl
set_option maxRecDepth 100000 in
theorem pm_okC_e206 : lw_tbl[pm_pl 206]? = some (Cond.code (pm_y 206) (pm_by 206) (pm_ml 206) (pm_rt 206)) := by rfl
theorem pm_okC_180 (b : Nat) (h1 : b ≥ 180) (h2 : b < 207) : lw_tbl[pm_pl b]? = some (Cond.code (pm_y b) (pm_by b) (pm_ml b) (pm_rt b)) := by
  rcases (by omega : b = 180 ∨ b = 181 ∨ b = 182 ∨ b = 183 ∨ b = 184 ∨ b = 185 ∨ b = 186 ∨ b = 187 ∨ b = 188 ∨ b = 189 ∨ b = 190 ∨ b = 191 ∨ b = 192 ∨ b = 193 ∨ b = 194 ∨ b = 195 ∨ b = 196 ∨ b = 197 ∨ b = 198 ∨ b = 199 ∨ b = 200 ∨ b = 201 ∨ b = 202 ∨ b = 203 ∨ b = 204 ∨ b = 205 ∨ b = 206) with rfl | rfl | rfl | rfl | rfl | rfl | rfl | rfl | rfl | rfl | rfl | rfl | rfl | rfl | rfl | rfl | rfl | rfl | rfl | rfl | rfl | rfl | rfl | rfl | rfl | rfl | rfl
  · exact pm_okC_e180
  · exact pm_okC_e181
  · exact pm_okC_e182
  · exact pm_okC_e183
  · exact pm_okC_e184
  · exact pm_okC_e185
  · exact pm_okC_e186
  · exact pm_okC_e187
  · exact pm_okC_e188
  · exact pm_okC_e189
  · exact pm_okC_e190
  · exact pm_okC_e191
  · exact pm_okC_e192
  · exact pm_okC_e193
  · exact pm_okC_e194
  · exact pm_okC_e195
  · exact pm_okC_e196
  · exact pm_okC_e197
  · exact pm_okC_e198
  · exact pm_okC_e199
  · exact pm_okC_e200
  · exact pm_okC_e201
  · exact pm_okC_e202
  · exact pm_okC_e203
  · exact pm_okC_e204
  · exact pm_okC_e205
  · exact pm_okC_e206
theorem pm_okb_0 : (List.range' 0 30).all pm_okw = true := by decide +kernel
theorem pm_okb_30 : (List.range' 30 30).all pm_okw = true := by decide +kernel
theorem pm_okb_60 : (List.range' 60 30).all pm_okw = true := by decide +kernel
theorem pm_okb_90 : (List.range' 90 30).all pm_okw = true := by decide +kernel
theorem pm_okb_120 : (List.range' 120 30).all pm_okw = true := by decide +kernel
theorem pm_okb_150 : (List.range' 150 30).all pm_okw = true := by decide +kernel
theorem pm_okb_180 : (List.range' 180 27).all pm_okw = true := by decide +kernel
theorem pm_allsp {α : Type} {f : α → Bool} {l : List α} (k n : Nat) (h1 : ((l.drop k).take n).all f = true) (h2 : (l.drop (k + n)).all f = true) : (l.drop k).all f = true := by
  rw [← List.take_append_drop n (l.drop k), List.all_append, h1, List.drop_drop, h2]; rfl
theorem pm_okL : pm_okm mL_law = true := by
  show (c_L_law.drop 0).all (pm_chk mL_law) = true
  refine pm_allsp 0 50 pm_okL_0 ?_
  refine pm_allsp 50 50 pm_okL_50 ?_
  refine pm_allsp 100 50 pm_okL_100 ?_
  refine pm_allsp 150 50 pm_okL_150 ?_
  refine pm_allsp 200 50 pm_okL_200 ?_
  refine pm_allsp 250 50 pm_okL_250 ?_
  refine pm_allsp 300 50 pm_okL_300 ?_
  refine pm_allsp 350 50 pm_okL_350 ?_
  refine pm_allsp 400 50 pm_okL_400 ?_
  refine pm_allsp 450 50 pm_okL_450 ?_
  refine pm_allsp 500 50 pm_okL_500 ?_
  refine pm_allsp 550 50 pm_okL_550 ?_
  refine pm_allsp 600 50 pm_okL_600 ?_
  refine pm_allsp 650 50 pm_okL_650 ?_
  refine pm_allsp 700 50 pm_okL_700 ?_
  refine pm_allsp 750 50 pm_okL_750 ?_
  refine pm_allsp 800 50 pm_okL_800 ?_
  refine pm_allsp 850 50 pm_okL_850 ?_
  refine pm_allsp 900 50 pm_okL_900 ?_
  decide +kernel
theorem pm_okM {mi : Nat} (h : mi < 208) : pm_okm mi = true := by
  rcases (by omega : (0 ≤ mi ∧ mi < 8) ∨ (8 ≤ mi ∧ mi < 16) ∨ (16 ≤ mi ∧ mi < 24) ∨ (24 ≤ mi ∧ mi < 32) ∨ (32 ≤ mi ∧ mi < 40) ∨ (40 ≤ mi ∧ mi < 48) ∨ (48 ≤ mi ∧ mi < 56) ∨ (56 ≤ mi ∧ mi < 64) ∨ (64 ≤ mi ∧ mi < 72) ∨ (72 ≤ mi ∧ mi < 80) ∨ (80 ≤ mi ∧ mi < 88) ∨ (88 ≤ mi ∧ mi < 96) ∨ (96 ≤ mi ∧ mi < 104) ∨ (104 ≤ mi ∧ mi < 112) ∨ (112 ≤ mi ∧ mi < 120) ∨ (120 ≤ mi ∧ mi < 128) ∨ (128 ≤ mi ∧ mi < 136) ∨ (136 ≤ mi ∧ mi < 144) ∨ (144 ≤ mi ∧ mi < 152) ∨ (152 ≤ mi ∧ mi < 160) ∨ (160 ≤ mi ∧ mi < 168) ∨ (168 ≤ mi ∧ mi < 176) ∨ (176 ≤ mi ∧ mi < 184) ∨ (184 ≤ mi ∧ mi < 192) ∨ (192 ≤ mi ∧ mi < 200) ∨ (200 ≤ mi ∧ mi < 207) ∨ mi = 207) with h | h | h | h | h | h | h | h | h | h | h | h | h | h | h | h | h | h | h | h | h | h | h | h | h | h | rfl
  · exact pm_grp pm_oka_0 h.1 h.2
  · exact pm_grp pm_oka_8 h.1 h.2
  · exact pm_grp pm_oka_16 h.1 h.2
  · exact pm_grp pm_oka_24 h.1 h.2
  · exact pm_grp pm_oka_32 h.1 h.2
  · exact pm_grp pm_oka_40 h.1 h.2
  · exact pm_grp pm_oka_48 h.1 h.2
  · exact pm_grp pm_oka_56 h.1 h.2
  · exact pm_grp pm_oka_64 h.1 h.2
  · exact pm_grp pm_oka_72 h.1 h.2
  · exact pm_grp pm_oka_80 h.1 h.2
  · exact pm_grp pm_oka_88 h.1 h.2
  · exact pm_grp pm_oka_96 h.1 h.2
  · exact pm_grp pm_oka_104 h.1 h.2
  · exact pm_grp pm_oka_112 h.1 h.2
  · exact pm_grp pm_oka_120 h.1 h.2
  · exact pm_grp pm_oka_128 h.1 h.2
  · exact pm_grp pm_oka_136 h.1 h.2
  · exact pm_grp pm_oka_144 h.1 h.2
  · exact pm_grp pm_oka_152 h.1 h.2
  · exact pm_grp pm_oka_160 h.1 h.2
  · exact pm_grp pm_oka_168 h.1 h.2
  · exact pm_grp pm_oka_176 h.1 h.2
  · exact pm_grp pm_oka_184 h.1 h.2
  · exact pm_grp pm_oka_192 h.1 h.2
  · exact pm_grp pm_oka_200 h.1 h.2
  · exact pm_okL
theorem pm_okW {b : Nat} (h : b < 207) : pm_okw b = true := by
  rcases (by omega : (0 ≤ b ∧ b < 30) ∨ (30 ≤ b ∧ b < 60) ∨ (60 ≤ b ∧ b < 90) ∨ (90 ≤ b ∧ b < 120) ∨ (120 ≤ b ∧ b < 150) ∨ (150 ≤ b ∧ b < 180) ∨ (180 ≤ b ∧ b < 207)) with h | h | h | h | h | h | h
  · exact pm_grp pm_okb_0 h.1 h.2
  · exact pm_grp pm_okb_30 h.1 h.2
  · exact pm_grp pm_okb_60 h.1 h.2
  · exact pm_grp pm_okb_90 h.1 h.2
  · exact pm_grp pm_okb_120 h.1 h.2
  · exact pm_grp pm_okb_150 h.1 h.2
  · exact pm_grp pm_okb_180 h.1 h.2
theorem pm_okC : ∀ b, b < 207 → lw_tbl[pm_pl b]? = some (Cond.code (pm_y b) (pm_by b) (pm_ml b) (pm_rt b)) := by
  intro b h
  rcases Nat.lt_or_ge b 30 with h0 | h0
  · exact pm_okC_0 b h0
  rcases Nat.lt_or_ge b 60 with h30 | h30
  · exact pm_okC_30 b h0 h30
  rcases Nat.lt_or_ge b 90 with h60 | h60
  · exact pm_okC_60 b h30 h60
  rcases Nat.lt_or_ge b 120 with h90 | h90
  · exact pm_okC_90 b h60 h90
  rcases Nat.lt_or_ge b 150 with h120 | h120
  · exact pm_okC_120 b h90 h120
  rcases Nat.lt_or_ge b 180 with h150 | h150
  · exact pm_okC_150 b h120 h150
  exact pm_okC_180 b h150 h
