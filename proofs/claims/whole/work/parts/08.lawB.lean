/-! the law: every row is right -/
theorem am_lr_10 : mt_L_law_10.all (am_okb am_P am_NM mm_L_law) = true := by decide +kernel
theorem am_lr_11 : mt_L_law_11.all (am_okb am_P am_NM mm_L_law) = true := by decide +kernel
theorem am_lr_12 : mt_L_law_12.all (am_okb am_P am_NM mm_L_law) = true := by decide +kernel
theorem am_lr_13 : mt_L_law_13.all (am_okb am_P am_NM mm_L_law) = true := by decide +kernel
theorem am_lr_14 : mt_L_law_14.all (am_okb am_P am_NM mm_L_law) = true := by decide +kernel
theorem am_lr_15 : mt_L_law_15.all (am_okb am_P am_NM mm_L_law) = true := by decide +kernel
theorem am_lr_16 : mt_L_law_16.all (am_okb am_P am_NM mm_L_law) = true := by decide +kernel
theorem am_lr_17 : mt_L_law_17.all (am_okb am_P am_NM mm_L_law) = true := by decide +kernel
theorem am_lr_18 : mt_L_law_18.all (am_okb am_P am_NM mm_L_law) = true := by decide +kernel
theorem am_lr_19 : mt_L_law_19.all (am_okb am_P am_NM mm_L_law) = true := by decide +kernel
theorem am_lr_20 : mt_L_law_20.all (am_okb am_P am_NM mm_L_law) = true := by decide +kernel
theorem am_lr_21 : mt_L_law_21.all (am_okb am_P am_NM mm_L_law) = true := by decide +kernel
theorem am_lr_22 : mt_L_law_22.all (am_okb am_P am_NM mm_L_law) = true := by decide +kernel
theorem am_lr : ∀ q ∈ am_mt (am_P 332), am_okb am_P am_NM (am_P 332) q = true := by
  show ∀ q ∈ mt_L_law, am_okb am_P am_NM mm_L_law q = true
  intro q hq
  simp only [mt_L_law, List.mem_append] at hq
  rcases hq with hq | hq | hq | hq | hq | hq | hq | hq | hq | hq | hq | hq | hq | hq | hq | hq | hq | hq | hq | hq | hq | hq | hq
  · exact List.all_eq_true.mp am_lr_0 q hq
  · exact List.all_eq_true.mp am_lr_1 q hq
  · exact List.all_eq_true.mp am_lr_2 q hq
  · exact List.all_eq_true.mp am_lr_3 q hq
  · exact List.all_eq_true.mp am_lr_4 q hq
  · exact List.all_eq_true.mp am_lr_5 q hq
  · exact List.all_eq_true.mp am_lr_6 q hq
  · exact List.all_eq_true.mp am_lr_7 q hq
  · exact List.all_eq_true.mp am_lr_8 q hq
  · exact List.all_eq_true.mp am_lr_9 q hq
  · exact List.all_eq_true.mp am_lr_10 q hq
  · exact List.all_eq_true.mp am_lr_11 q hq
  · exact List.all_eq_true.mp am_lr_12 q hq
  · exact List.all_eq_true.mp am_lr_13 q hq
  · exact List.all_eq_true.mp am_lr_14 q hq
  · exact List.all_eq_true.mp am_lr_15 q hq
  · exact List.all_eq_true.mp am_lr_16 q hq
  · exact List.all_eq_true.mp am_lr_17 q hq
  · exact List.all_eq_true.mp am_lr_18 q hq
  · exact List.all_eq_true.mp am_lr_19 q hq
  · exact List.all_eq_true.mp am_lr_20 q hq
  · exact List.all_eq_true.mp am_lr_21 q hq
  · exact List.all_eq_true.mp am_lr_22 q hq
