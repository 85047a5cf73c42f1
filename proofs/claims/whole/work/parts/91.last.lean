/-! the owed statement -/
theorem i_vc : Claimed_1_1 ∧ Claimed_1_2 := am_vc (fun xs _ hL => law_all (xs := xs) hL)
