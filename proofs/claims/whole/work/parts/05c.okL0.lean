theorem pm_okL_0 : ((c_L_law.drop 0).take 50).all (pm_chk mL_law) = true := by decide +kernel
theorem pm_okL_50 : ((c_L_law.drop 50).take 50).all (pm_chk mL_law) = true := by decide +kernel
theorem pm_okL_100 : ((c_L_law.drop 100).take 50).all (pm_chk mL_law) = true := by decide +kernel
theorem pm_okL_150 : ((c_L_law.drop 150).take 50).all (pm_chk mL_law) = true := by decide +kernel
theorem pm_okL_200 : ((c_L_law.drop 200).take 50).all (pm_chk mL_law) = true := by decide +kernel
