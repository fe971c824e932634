theorem pm_okL_750 : ((c_L_law.drop 750).take 50).all (pm_chk mL_law) = true := by decide +kernel
theorem pm_okL_800 : ((c_L_law.drop 800).take 50).all (pm_chk mL_law) = true := by decide +kernel
theorem pm_okL_850 : ((c_L_law.drop 850).take 50).all (pm_chk mL_law) = true := by decide +kernel
theorem pm_okL_900 : ((c_L_law.drop 900).take 50).all (pm_chk mL_law) = true := by decide +kernel
