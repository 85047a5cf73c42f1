/-! the law: every row is right -/
theorem am_lr_0 : mt_L_law_0.all (am_okb am_P am_NM mm_L_law) = true := by decide +kernel
theorem am_lr_1 : mt_L_law_1.all (am_okb am_P am_NM mm_L_law) = true := by decide +kernel
theorem am_lr_2 : mt_L_law_2.all (am_okb am_P am_NM mm_L_law) = true := by decide +kernel
theorem am_lr_3 : mt_L_law_3.all (am_okb am_P am_NM mm_L_law) = true := by decide +kernel
theorem am_lr_4 : mt_L_law_4.all (am_okb am_P am_NM mm_L_law) = true := by decide +kernel
theorem am_lr_5 : mt_L_law_5.all (am_okb am_P am_NM mm_L_law) = true := by decide +kernel
theorem am_lr_6 : mt_L_law_6.all (am_okb am_P am_NM mm_L_law) = true := by decide +kernel
theorem am_lr_7 : mt_L_law_7.all (am_okb am_P am_NM mm_L_law) = true := by decide +kernel
theorem am_lr_8 : mt_L_law_8.all (am_okb am_P am_NM mm_L_law) = true := by decide +kernel
theorem am_lr_9 : mt_L_law_9.all (am_okb am_P am_NM mm_L_law) = true := by decide +kernel
