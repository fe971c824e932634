theorem pm_okL_250 : ((c_L_law.drop 250).take 50).all (pm_chk mL_law) = true := by decide +kernel
theorem pm_okL_300 : ((c_L_law.drop 300).take 50).all (pm_chk mL_law) = true := by decide +kernel
theorem pm_okL_350 : ((c_L_law.drop 350).take 50).all (pm_chk mL_law) = true := by decide +kernel
theorem pm_okL_400 : ((c_L_law.drop 400).take 50).all (pm_chk mL_law) = true := by decide +kernel
theorem pm_okL_450 : ((c_L_law.drop 450).take 50).all (pm_chk mL_law) = true := by decide +kernel
