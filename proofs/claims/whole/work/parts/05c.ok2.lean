theorem pm_oka_144 : (List.range' 144 8).all pm_okm = true := by decide +kernel
theorem pm_oka_152 : (List.range' 152 8).all pm_okm = true := by decide +kernel
theorem pm_oka_160 : (List.range' 160 8).all pm_okm = true := by decide +kernel
theorem pm_oka_168 : (List.range' 168 8).all pm_okm = true := by decide +kernel
theorem pm_oka_176 : (List.range' 176 8).all pm_okm = true := by decide +kernel
theorem pm_oka_184 : (List.range' 184 8).all pm_okm = true := by decide +kernel
theorem pm_oka_192 : (List.range' 192 8).all pm_okm = true := by decide +kernel
theorem pm_oka_200 : (List.range' 200 7).all pm_okm = true := by decide +kernel
