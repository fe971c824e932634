theorem pm_okL_500 : ((c_L_law.drop 500).take 50).all (pm_chk mL_law) = true := by decide +kernel
theorem pm_okL_550 : ((c_L_law.drop 550).take 50).all (pm_chk mL_law) = true := by decide +kernel
theorem pm_okL_600 : ((c_L_law.drop 600).take 50).all (pm_chk mL_law) = true := by decide +kernel
theorem pm_okL_650 : ((c_L_law.drop 650).take 50).all (pm_chk mL_law) = true := by decide +kernel
theorem pm_okL_700 : ((c_L_law.drop 700).take 50).all (pm_chk mL_law) = true := by decide +kernel
