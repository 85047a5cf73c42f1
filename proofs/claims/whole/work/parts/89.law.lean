/-! the law's loop -/
theorem law_sub {sl : Nat} {i : Nat} (hs : sl ≤ 3072) (hi : i ≤ 4000) : ((nI sl - nI 6 : Int32) < nI i) = (sl < i + 6) := by
  refine propext ?_
  rw [Int32.lt_iff_toInt_lt, Int32.toInt_sub, nI_toInt (by omega), nI_toInt (by decide), nI_toInt (by omega)]
  rw [Int.bmod_eq_of_le (by omega) (by omega)]
  omega
set_option maxRecDepth 100000 in
theorem law_inc {e : am_V} {I : Nat → Nat → Int32} {L : Nat → Nat → Int64} {i cb sb : Nat} {Post : Option Value → am_S → Prop} (h : am_T am_P 400 mi_L_law 18 (LV (nI (i + 6))) [] (am_st e I L) cb sb Post) : am_T am_P 400 mi_L_law 2403 (LV (nI i)) [] (am_st e I L) cb sb Post := by
  rw [← nI_add] at h
  exact am_run_rows am_OK am_lr [18] 5 _ _ _ _ _ _ (And.intro (am_T_lv h ⟨rfl, rfl, rfl, rfl, trivial⟩) trivial)
set_option maxRecDepth 100000 in
set_option maxHeartbeats 4000000 in
theorem law_head {e : am_V} {I : Nat → Nat → Int32} {L : Nat → Nat → Int64} {i cb sb sl : Nat} (hsl : e.2.1 = sl) (hs : sl ≤ 3072) (hi : i ≤ 4000) (hc : i + 6 ≤ sl → (am_T am_P 400 mi_L_law 2403 (LV (nI i)) [] (am_st e I L) cb sb (fun v _ => v = some (.int 1)) ∧ am_T am_P 400 mi_L_law 308 (LV (nI i)) [] (am_st e I L) cb sb (fun v _ => v = some (.int 1)) ∧ am_T am_P 400 mi_L_law 371 (LV (nI i)) [] (am_st e I L) cb sb (fun v _ => v = some (.int 1)) ∧ am_T am_P 400 mi_L_law 394 (LV (nI i)) [] (am_st e I L) cb sb (fun v _ => v = some (.int 1)) ∧ am_T am_P 400 mi_L_law 407 (LV (nI i)) [] (am_st e I L) cb sb (fun v _ => v = some (.int 1)) ∧ am_T am_P 400 mi_L_law 430 (LV (nI i)) [] (am_st e I L) cb sb (fun v _ => v = some (.int 1)) ∧ am_T am_P 400 mi_L_law 463 (LV (nI i)) [] (am_st e I L) cb sb (fun v _ => v = some (.int 1)) ∧ am_T am_P 400 mi_L_law 506 (LV (nI i)) [] (am_st e I L) cb sb (fun v _ => v = some (.int 1)) ∧ am_T am_P 400 mi_L_law 549 (LV (nI i)) [] (am_st e I L) cb sb (fun v _ => v = some (.int 1)) ∧ am_T am_P 400 mi_L_law 572 (LV (nI i)) [] (am_st e I L) cb sb (fun v _ => v = some (.int 1)) ∧ am_T am_P 400 mi_L_law 605 (LV (nI i)) [] (am_st e I L) cb sb (fun v _ => v = some (.int 1)) ∧ am_T am_P 400 mi_L_law 638 (LV (nI i)) [] (am_st e I L) cb sb (fun v _ => v = some (.int 1)) ∧ am_T am_P 400 mi_L_law 681 (LV (nI i)) [] (am_st e I L) cb sb (fun v _ => v = some (.int 1)) ∧ am_T am_P 400 mi_L_law 724 (LV (nI i)) [] (am_st e I L) cb sb (fun v _ => v = some (.int 1)) ∧ am_T am_P 400 mi_L_law 737 (LV (nI i)) [] (am_st e I L) cb sb (fun v _ => v = some (.int 1)) ∧ am_T am_P 400 mi_L_law 750 (LV (nI i)) [] (am_st e I L) cb sb (fun v _ => v = some (.int 1)) ∧ am_T am_P 400 mi_L_law 783 (LV (nI i)) [] (am_st e I L) cb sb (fun v _ => v = some (.int 1)) ∧ am_T am_P 400 mi_L_law 816 (LV (nI i)) [] (am_st e I L) cb sb (fun v _ => v = some (.int 1)) ∧ am_T am_P 400 mi_L_law 849 (LV (nI i)) [] (am_st e I L) cb sb (fun v _ => v = some (.int 1)) ∧ am_T am_P 400 mi_L_law 892 (LV (nI i)) [] (am_st e I L) cb sb (fun v _ => v = some (.int 1)) ∧ am_T am_P 400 mi_L_law 925 (LV (nI i)) [] (am_st e I L) cb sb (fun v _ => v = some (.int 1)) ∧ am_T am_P 400 mi_L_law 958 (LV (nI i)) [] (am_st e I L) cb sb (fun v _ => v = some (.int 1)) ∧ am_T am_P 400 mi_L_law 991 (LV (nI i)) [] (am_st e I L) cb sb (fun v _ => v = some (.int 1)) ∧ am_T am_P 400 mi_L_law 1034 (LV (nI i)) [] (am_st e I L) cb sb (fun v _ => v = some (.int 1)) ∧ am_T am_P 400 mi_L_law 1057 (LV (nI i)) [] (am_st e I L) cb sb (fun v _ => v = some (.int 1)) ∧ am_T am_P 400 mi_L_law 1070 (LV (nI i)) [] (am_st e I L) cb sb (fun v _ => v = some (.int 1)) ∧ am_T am_P 400 mi_L_law 1083 (LV (nI i)) [] (am_st e I L) cb sb (fun v _ => v = some (.int 1)) ∧ am_T am_P 400 mi_L_law 1126 (LV (nI i)) [] (am_st e I L) cb sb (fun v _ => v = some (.int 1)) ∧ am_T am_P 400 mi_L_law 1159 (LV (nI i)) [] (am_st e I L) cb sb (fun v _ => v = some (.int 1)) ∧ am_T am_P 400 mi_L_law 1192 (LV (nI i)) [] (am_st e I L) cb sb (fun v _ => v = some (.int 1)) ∧ am_T am_P 400 mi_L_law 1235 (LV (nI i)) [] (am_st e I L) cb sb (fun v _ => v = some (.int 1)) ∧ am_T am_P 400 mi_L_law 1248 (LV (nI i)) [] (am_st e I L) cb sb (fun v _ => v = some (.int 1)) ∧ am_T am_P 400 mi_L_law 1271 (LV (nI i)) [] (am_st e I L) cb sb (fun v _ => v = some (.int 1)) ∧ am_T am_P 400 mi_L_law 1284 (LV (nI i)) [] (am_st e I L) cb sb (fun v _ => v = some (.int 1)) ∧ am_T am_P 400 mi_L_law 1297 (LV (nI i)) [] (am_st e I L) cb sb (fun v _ => v = some (.int 1)) ∧ am_T am_P 400 mi_L_law 1340 (LV (nI i)) [] (am_st e I L) cb sb (fun v _ => v = some (.int 1)) ∧ am_T am_P 400 mi_L_law 1353 (LV (nI i)) [] (am_st e I L) cb sb (fun v _ => v = some (.int 1)) ∧ am_T am_P 400 mi_L_law 1376 (LV (nI i)) [] (am_st e I L) cb sb (fun v _ => v = some (.int 1)) ∧ am_T am_P 400 mi_L_law 1389 (LV (nI i)) [] (am_st e I L) cb sb (fun v _ => v = some (.int 1)) ∧ am_T am_P 400 mi_L_law 1412 (LV (nI i)) [] (am_st e I L) cb sb (fun v _ => v = some (.int 1)) ∧ am_T am_P 400 mi_L_law 1455 (LV (nI i)) [] (am_st e I L) cb sb (fun v _ => v = some (.int 1)) ∧ am_T am_P 400 mi_L_law 1468 (LV (nI i)) [] (am_st e I L) cb sb (fun v _ => v = some (.int 1)) ∧ am_T am_P 400 mi_L_law 1491 (LV (nI i)) [] (am_st e I L) cb sb (fun v _ => v = some (.int 1)) ∧ am_T am_P 400 mi_L_law 1504 (LV (nI i)) [] (am_st e I L) cb sb (fun v _ => v = some (.int 1)) ∧ am_T am_P 400 mi_L_law 1517 (LV (nI i)) [] (am_st e I L) cb sb (fun v _ => v = some (.int 1)) ∧ am_T am_P 400 mi_L_law 1550 (LV (nI i)) [] (am_st e I L) cb sb (fun v _ => v = some (.int 1)) ∧ am_T am_P 400 mi_L_law 1583 (LV (nI i)) [] (am_st e I L) cb sb (fun v _ => v = some (.int 1)) ∧ am_T am_P 400 mi_L_law 1626 (LV (nI i)) [] (am_st e I L) cb sb (fun v _ => v = some (.int 1)) ∧ am_T am_P 400 mi_L_law 1669 (LV (nI i)) [] (am_st e I L) cb sb (fun v _ => v = some (.int 1)) ∧ am_T am_P 400 mi_L_law 1712 (LV (nI i)) [] (am_st e I L) cb sb (fun v _ => v = some (.int 1)) ∧ am_T am_P 400 mi_L_law 1745 (LV (nI i)) [] (am_st e I L) cb sb (fun v _ => v = some (.int 1)) ∧ am_T am_P 400 mi_L_law 1778 (LV (nI i)) [] (am_st e I L) cb sb (fun v _ => v = some (.int 1)) ∧ am_T am_P 400 mi_L_law 1811 (LV (nI i)) [] (am_st e I L) cb sb (fun v _ => v = some (.int 1)) ∧ am_T am_P 400 mi_L_law 1844 (LV (nI i)) [] (am_st e I L) cb sb (fun v _ => v = some (.int 1)) ∧ am_T am_P 400 mi_L_law 1867 (LV (nI i)) [] (am_st e I L) cb sb (fun v _ => v = some (.int 1)) ∧ am_T am_P 400 mi_L_law 1890 (LV (nI i)) [] (am_st e I L) cb sb (fun v _ => v = some (.int 1)) ∧ am_T am_P 400 mi_L_law 1943 (LV (nI i)) [] (am_st e I L) cb sb (fun v _ => v = some (.int 1)) ∧ am_T am_P 400 mi_L_law 2006 (LV (nI i)) [] (am_st e I L) cb sb (fun v _ => v = some (.int 1)) ∧ am_T am_P 400 mi_L_law 2049 (LV (nI i)) [] (am_st e I L) cb sb (fun v _ => v = some (.int 1)) ∧ am_T am_P 400 mi_L_law 2102 (LV (nI i)) [] (am_st e I L) cb sb (fun v _ => v = some (.int 1)) ∧ am_T am_P 400 mi_L_law 2155 (LV (nI i)) [] (am_st e I L) cb sb (fun v _ => v = some (.int 1)) ∧ am_T am_P 400 mi_L_law 2178 (LV (nI i)) [] (am_st e I L) cb sb (fun v _ => v = some (.int 1)) ∧ am_T am_P 400 mi_L_law 2201 (LV (nI i)) [] (am_st e I L) cb sb (fun v _ => v = some (.int 1)) ∧ am_T am_P 400 mi_L_law 2224 (LV (nI i)) [] (am_st e I L) cb sb (fun v _ => v = some (.int 1)) ∧ am_T am_P 400 mi_L_law 2267 (LV (nI i)) [] (am_st e I L) cb sb (fun v _ => v = some (.int 1)) ∧ am_T am_P 400 mi_L_law 2340 (LV (nI i)) [] (am_st e I L) cb sb (fun v _ => v = some (.int 1)))) : am_T am_P 400 mi_L_law 18 (LV (nI i)) [] (am_st e I L) cb sb (fun v _ => v = some (.int 1)) := by
  have hq := law_sub (sl := sl) (i := i) hs hi
  refine am_run_rows am_OK am_lr [18, 2403, 308, 371, 394, 407, 430, 463, 506, 549, 572, 605, 638, 681, 724, 737, 750, 783, 816, 849, 892, 925, 958, 991, 1034, 1057, 1070, 1083, 1126, 1159, 1192, 1235, 1248, 1271, 1284, 1297, 1340, 1353, 1376, 1389, 1412, 1455, 1468, 1491, 1504, 1517, 1550, 1583, 1626, 1669, 1712, 1745, 1778, 1811, 1844, 1867, 1890, 1943, 2006, 2049, 2102, 2155, 2178, 2201, 2224, 2267, 2340] 30 _ _ _ _ _ _ ?_
  refine ⟨e.2.1, rfl, ?_⟩
  rw [hsl]
  refine And.intro (fun _ => And.intro ⟨_, rfl, rfl⟩ rfl) (fun hgt => ?_)
  have hgt2 : ¬ ((nI sl - nI 6 : Int32) < nI i) := hgt
  rw [hq] at hgt2
  obtain ⟨h2403, hcs⟩ := hc (by omega)
  refine And.intro ⟨e.2.1, rfl, by rw [hsl]; exact vp_in_nI (by omega) (by omega)⟩ ?_
  refine And.intro (fun _ => And.intro (am_T_lv h2403 ⟨rfl, rfl, rfl, rfl, trivial⟩) trivial) ?_
  refine And.intro (fun _ => And.intro (am_T_lv hcs.1 ⟨rfl, rfl, rfl, rfl, trivial⟩) trivial) ?_
  refine And.intro (fun _ => And.intro (am_T_lv hcs.2.1 ⟨rfl, rfl, rfl, rfl, trivial⟩) trivial) ?_
  refine And.intro (fun _ => And.intro (am_T_lv hcs.2.2.1 ⟨rfl, rfl, rfl, rfl, trivial⟩) trivial) ?_
  refine And.intro (fun _ => And.intro (am_T_lv hcs.2.2.2.1 ⟨rfl, rfl, rfl, rfl, trivial⟩) trivial) ?_
  refine And.intro (fun _ => And.intro (am_T_lv hcs.2.2.2.2.1 ⟨rfl, rfl, rfl, rfl, trivial⟩) trivial) ?_
  refine And.intro (fun _ => And.intro (am_T_lv hcs.2.2.2.2.2.1 ⟨rfl, rfl, rfl, rfl, trivial⟩) trivial) ?_
  refine And.intro (fun _ => And.intro (am_T_lv hcs.2.2.2.2.2.2.1 ⟨rfl, rfl, rfl, rfl, trivial⟩) trivial) ?_
  refine And.intro (fun _ => And.intro (am_T_lv hcs.2.2.2.2.2.2.2.1 ⟨rfl, rfl, rfl, rfl, trivial⟩) trivial) ?_
  refine And.intro (fun _ => And.intro (am_T_lv hcs.2.2.2.2.2.2.2.2.1 ⟨rfl, rfl, rfl, rfl, trivial⟩) trivial) ?_
  refine And.intro (fun _ => And.intro (am_T_lv hcs.2.2.2.2.2.2.2.2.2.1 ⟨rfl, rfl, rfl, rfl, trivial⟩) trivial) ?_
  refine And.intro (fun _ => And.intro (am_T_lv hcs.2.2.2.2.2.2.2.2.2.2.1 ⟨rfl, rfl, rfl, rfl, trivial⟩) trivial) ?_
  refine And.intro (fun _ => And.intro (am_T_lv hcs.2.2.2.2.2.2.2.2.2.2.2.1 ⟨rfl, rfl, rfl, rfl, trivial⟩) trivial) ?_
  refine And.intro (fun _ => And.intro (am_T_lv hcs.2.2.2.2.2.2.2.2.2.2.2.2.1 ⟨rfl, rfl, rfl, rfl, trivial⟩) trivial) ?_
  refine And.intro (fun _ => And.intro (am_T_lv hcs.2.2.2.2.2.2.2.2.2.2.2.2.2.1 ⟨rfl, rfl, rfl, rfl, trivial⟩) trivial) ?_
  refine And.intro (fun _ => And.intro (am_T_lv hcs.2.2.2.2.2.2.2.2.2.2.2.2.2.2.1 ⟨rfl, rfl, rfl, rfl, trivial⟩) trivial) ?_
  refine And.intro (fun _ => And.intro (am_T_lv hcs.2.2.2.2.2.2.2.2.2.2.2.2.2.2.2.1 ⟨rfl, rfl, rfl, rfl, trivial⟩) trivial) ?_
  refine And.intro (fun _ => And.intro (am_T_lv hcs.2.2.2.2.2.2.2.2.2.2.2.2.2.2.2.2.1 ⟨rfl, rfl, rfl, rfl, trivial⟩) trivial) ?_
  refine And.intro (fun _ => And.intro (am_T_lv hcs.2.2.2.2.2.2.2.2.2.2.2.2.2.2.2.2.2.1 ⟨rfl, rfl, rfl, rfl, trivial⟩) trivial) ?_
  refine And.intro (fun _ => And.intro (am_T_lv hcs.2.2.2.2.2.2.2.2.2.2.2.2.2.2.2.2.2.2.1 ⟨rfl, rfl, rfl, rfl, trivial⟩) trivial) ?_
  refine And.intro (fun _ => And.intro (am_T_lv hcs.2.2.2.2.2.2.2.2.2.2.2.2.2.2.2.2.2.2.2.1 ⟨rfl, rfl, rfl, rfl, trivial⟩) trivial) ?_
  refine And.intro (fun _ => And.intro (am_T_lv hcs.2.2.2.2.2.2.2.2.2.2.2.2.2.2.2.2.2.2.2.2.1 ⟨rfl, rfl, rfl, rfl, trivial⟩) trivial) ?_
  refine And.intro (fun _ => And.intro (am_T_lv hcs.2.2.2.2.2.2.2.2.2.2.2.2.2.2.2.2.2.2.2.2.2.1 ⟨rfl, rfl, rfl, rfl, trivial⟩) trivial) ?_
  refine And.intro (fun _ => And.intro (am_T_lv hcs.2.2.2.2.2.2.2.2.2.2.2.2.2.2.2.2.2.2.2.2.2.2.1 ⟨rfl, rfl, rfl, rfl, trivial⟩) trivial) ?_
  refine And.intro (fun _ => And.intro (am_T_lv hcs.2.2.2.2.2.2.2.2.2.2.2.2.2.2.2.2.2.2.2.2.2.2.2.1 ⟨rfl, rfl, rfl, rfl, trivial⟩) trivial) ?_
  refine And.intro (fun _ => And.intro (am_T_lv hcs.2.2.2.2.2.2.2.2.2.2.2.2.2.2.2.2.2.2.2.2.2.2.2.2.1 ⟨rfl, rfl, rfl, rfl, trivial⟩) trivial) ?_
  refine And.intro (fun _ => And.intro (am_T_lv hcs.2.2.2.2.2.2.2.2.2.2.2.2.2.2.2.2.2.2.2.2.2.2.2.2.2.1 ⟨rfl, rfl, rfl, rfl, trivial⟩) trivial) ?_
  refine And.intro (fun _ => And.intro (am_T_lv hcs.2.2.2.2.2.2.2.2.2.2.2.2.2.2.2.2.2.2.2.2.2.2.2.2.2.2.1 ⟨rfl, rfl, rfl, rfl, trivial⟩) trivial) ?_
  refine And.intro (fun _ => And.intro (am_T_lv hcs.2.2.2.2.2.2.2.2.2.2.2.2.2.2.2.2.2.2.2.2.2.2.2.2.2.2.2.1 ⟨rfl, rfl, rfl, rfl, trivial⟩) trivial) ?_
  refine And.intro (fun _ => And.intro (am_T_lv hcs.2.2.2.2.2.2.2.2.2.2.2.2.2.2.2.2.2.2.2.2.2.2.2.2.2.2.2.2.1 ⟨rfl, rfl, rfl, rfl, trivial⟩) trivial) ?_
  refine And.intro (fun _ => And.intro (am_T_lv hcs.2.2.2.2.2.2.2.2.2.2.2.2.2.2.2.2.2.2.2.2.2.2.2.2.2.2.2.2.2.1 ⟨rfl, rfl, rfl, rfl, trivial⟩) trivial) ?_
  refine And.intro (fun _ => And.intro (am_T_lv hcs.2.2.2.2.2.2.2.2.2.2.2.2.2.2.2.2.2.2.2.2.2.2.2.2.2.2.2.2.2.2.1 ⟨rfl, rfl, rfl, rfl, trivial⟩) trivial) ?_
  refine And.intro (fun _ => And.intro (am_T_lv hcs.2.2.2.2.2.2.2.2.2.2.2.2.2.2.2.2.2.2.2.2.2.2.2.2.2.2.2.2.2.2.2.1 ⟨rfl, rfl, rfl, rfl, trivial⟩) trivial) ?_
  refine And.intro (fun _ => And.intro (am_T_lv hcs.2.2.2.2.2.2.2.2.2.2.2.2.2.2.2.2.2.2.2.2.2.2.2.2.2.2.2.2.2.2.2.2.1 ⟨rfl, rfl, rfl, rfl, trivial⟩) trivial) ?_
  refine And.intro (fun _ => And.intro (am_T_lv hcs.2.2.2.2.2.2.2.2.2.2.2.2.2.2.2.2.2.2.2.2.2.2.2.2.2.2.2.2.2.2.2.2.2.1 ⟨rfl, rfl, rfl, rfl, trivial⟩) trivial) ?_
  refine And.intro (fun _ => And.intro (am_T_lv hcs.2.2.2.2.2.2.2.2.2.2.2.2.2.2.2.2.2.2.2.2.2.2.2.2.2.2.2.2.2.2.2.2.2.2.1 ⟨rfl, rfl, rfl, rfl, trivial⟩) trivial) ?_
  refine And.intro (fun _ => And.intro (am_T_lv hcs.2.2.2.2.2.2.2.2.2.2.2.2.2.2.2.2.2.2.2.2.2.2.2.2.2.2.2.2.2.2.2.2.2.2.2.1 ⟨rfl, rfl, rfl, rfl, trivial⟩) trivial) ?_
  refine And.intro (fun _ => And.intro (am_T_lv hcs.2.2.2.2.2.2.2.2.2.2.2.2.2.2.2.2.2.2.2.2.2.2.2.2.2.2.2.2.2.2.2.2.2.2.2.2.1 ⟨rfl, rfl, rfl, rfl, trivial⟩) trivial) ?_
  refine And.intro (fun _ => And.intro (am_T_lv hcs.2.2.2.2.2.2.2.2.2.2.2.2.2.2.2.2.2.2.2.2.2.2.2.2.2.2.2.2.2.2.2.2.2.2.2.2.2.1 ⟨rfl, rfl, rfl, rfl, trivial⟩) trivial) ?_
  refine And.intro (fun _ => And.intro (am_T_lv hcs.2.2.2.2.2.2.2.2.2.2.2.2.2.2.2.2.2.2.2.2.2.2.2.2.2.2.2.2.2.2.2.2.2.2.2.2.2.2.1 ⟨rfl, rfl, rfl, rfl, trivial⟩) trivial) ?_
  refine And.intro (fun _ => And.intro (am_T_lv hcs.2.2.2.2.2.2.2.2.2.2.2.2.2.2.2.2.2.2.2.2.2.2.2.2.2.2.2.2.2.2.2.2.2.2.2.2.2.2.2.1 ⟨rfl, rfl, rfl, rfl, trivial⟩) trivial) ?_
  refine And.intro (fun _ => And.intro (am_T_lv hcs.2.2.2.2.2.2.2.2.2.2.2.2.2.2.2.2.2.2.2.2.2.2.2.2.2.2.2.2.2.2.2.2.2.2.2.2.2.2.2.2.1 ⟨rfl, rfl, rfl, rfl, trivial⟩) trivial) ?_
  refine And.intro (fun _ => And.intro (am_T_lv hcs.2.2.2.2.2.2.2.2.2.2.2.2.2.2.2.2.2.2.2.2.2.2.2.2.2.2.2.2.2.2.2.2.2.2.2.2.2.2.2.2.2.1 ⟨rfl, rfl, rfl, rfl, trivial⟩) trivial) ?_
  refine And.intro (fun _ => And.intro (am_T_lv hcs.2.2.2.2.2.2.2.2.2.2.2.2.2.2.2.2.2.2.2.2.2.2.2.2.2.2.2.2.2.2.2.2.2.2.2.2.2.2.2.2.2.2.1 ⟨rfl, rfl, rfl, rfl, trivial⟩) trivial) ?_
  refine And.intro (fun _ => And.intro (am_T_lv hcs.2.2.2.2.2.2.2.2.2.2.2.2.2.2.2.2.2.2.2.2.2.2.2.2.2.2.2.2.2.2.2.2.2.2.2.2.2.2.2.2.2.2.2.1 ⟨rfl, rfl, rfl, rfl, trivial⟩) trivial) ?_
  refine And.intro (fun _ => And.intro (am_T_lv hcs.2.2.2.2.2.2.2.2.2.2.2.2.2.2.2.2.2.2.2.2.2.2.2.2.2.2.2.2.2.2.2.2.2.2.2.2.2.2.2.2.2.2.2.2.1 ⟨rfl, rfl, rfl, rfl, trivial⟩) trivial) ?_
  refine And.intro (fun _ => And.intro (am_T_lv hcs.2.2.2.2.2.2.2.2.2.2.2.2.2.2.2.2.2.2.2.2.2.2.2.2.2.2.2.2.2.2.2.2.2.2.2.2.2.2.2.2.2.2.2.2.2.1 ⟨rfl, rfl, rfl, rfl, trivial⟩) trivial) ?_
  refine And.intro (fun _ => And.intro (am_T_lv hcs.2.2.2.2.2.2.2.2.2.2.2.2.2.2.2.2.2.2.2.2.2.2.2.2.2.2.2.2.2.2.2.2.2.2.2.2.2.2.2.2.2.2.2.2.2.2.1 ⟨rfl, rfl, rfl, rfl, trivial⟩) trivial) ?_
  refine And.intro (fun _ => And.intro (am_T_lv hcs.2.2.2.2.2.2.2.2.2.2.2.2.2.2.2.2.2.2.2.2.2.2.2.2.2.2.2.2.2.2.2.2.2.2.2.2.2.2.2.2.2.2.2.2.2.2.2.1 ⟨rfl, rfl, rfl, rfl, trivial⟩) trivial) ?_
  refine And.intro (fun _ => And.intro (am_T_lv hcs.2.2.2.2.2.2.2.2.2.2.2.2.2.2.2.2.2.2.2.2.2.2.2.2.2.2.2.2.2.2.2.2.2.2.2.2.2.2.2.2.2.2.2.2.2.2.2.2.1 ⟨rfl, rfl, rfl, rfl, trivial⟩) trivial) ?_
  refine And.intro (fun _ => And.intro (am_T_lv hcs.2.2.2.2.2.2.2.2.2.2.2.2.2.2.2.2.2.2.2.2.2.2.2.2.2.2.2.2.2.2.2.2.2.2.2.2.2.2.2.2.2.2.2.2.2.2.2.2.2.1 ⟨rfl, rfl, rfl, rfl, trivial⟩) trivial) ?_
  refine And.intro (fun _ => And.intro (am_T_lv hcs.2.2.2.2.2.2.2.2.2.2.2.2.2.2.2.2.2.2.2.2.2.2.2.2.2.2.2.2.2.2.2.2.2.2.2.2.2.2.2.2.2.2.2.2.2.2.2.2.2.2.1 ⟨rfl, rfl, rfl, rfl, trivial⟩) trivial) ?_
  refine And.intro (fun _ => And.intro (am_T_lv hcs.2.2.2.2.2.2.2.2.2.2.2.2.2.2.2.2.2.2.2.2.2.2.2.2.2.2.2.2.2.2.2.2.2.2.2.2.2.2.2.2.2.2.2.2.2.2.2.2.2.2.2.1 ⟨rfl, rfl, rfl, rfl, trivial⟩) trivial) ?_
  refine And.intro (fun _ => And.intro (am_T_lv hcs.2.2.2.2.2.2.2.2.2.2.2.2.2.2.2.2.2.2.2.2.2.2.2.2.2.2.2.2.2.2.2.2.2.2.2.2.2.2.2.2.2.2.2.2.2.2.2.2.2.2.2.2.1 ⟨rfl, rfl, rfl, rfl, trivial⟩) trivial) ?_
  refine And.intro (fun _ => And.intro (am_T_lv hcs.2.2.2.2.2.2.2.2.2.2.2.2.2.2.2.2.2.2.2.2.2.2.2.2.2.2.2.2.2.2.2.2.2.2.2.2.2.2.2.2.2.2.2.2.2.2.2.2.2.2.2.2.2.1 ⟨rfl, rfl, rfl, rfl, trivial⟩) trivial) ?_
  refine And.intro (fun _ => And.intro (am_T_lv hcs.2.2.2.2.2.2.2.2.2.2.2.2.2.2.2.2.2.2.2.2.2.2.2.2.2.2.2.2.2.2.2.2.2.2.2.2.2.2.2.2.2.2.2.2.2.2.2.2.2.2.2.2.2.2.1 ⟨rfl, rfl, rfl, rfl, trivial⟩) trivial) ?_
  refine And.intro (fun _ => And.intro (am_T_lv hcs.2.2.2.2.2.2.2.2.2.2.2.2.2.2.2.2.2.2.2.2.2.2.2.2.2.2.2.2.2.2.2.2.2.2.2.2.2.2.2.2.2.2.2.2.2.2.2.2.2.2.2.2.2.2.2.1 ⟨rfl, rfl, rfl, rfl, trivial⟩) trivial) ?_
  refine And.intro (fun _ => And.intro (am_T_lv hcs.2.2.2.2.2.2.2.2.2.2.2.2.2.2.2.2.2.2.2.2.2.2.2.2.2.2.2.2.2.2.2.2.2.2.2.2.2.2.2.2.2.2.2.2.2.2.2.2.2.2.2.2.2.2.2.2.1 ⟨rfl, rfl, rfl, rfl, trivial⟩) trivial) ?_
  refine And.intro (fun _ => And.intro (am_T_lv hcs.2.2.2.2.2.2.2.2.2.2.2.2.2.2.2.2.2.2.2.2.2.2.2.2.2.2.2.2.2.2.2.2.2.2.2.2.2.2.2.2.2.2.2.2.2.2.2.2.2.2.2.2.2.2.2.2.2.1 ⟨rfl, rfl, rfl, rfl, trivial⟩) trivial) ?_
  refine And.intro (fun _ => And.intro (am_T_lv hcs.2.2.2.2.2.2.2.2.2.2.2.2.2.2.2.2.2.2.2.2.2.2.2.2.2.2.2.2.2.2.2.2.2.2.2.2.2.2.2.2.2.2.2.2.2.2.2.2.2.2.2.2.2.2.2.2.2.2.1 ⟨rfl, rfl, rfl, rfl, trivial⟩) trivial) ?_
  refine And.intro (fun _ => And.intro (am_T_lv hcs.2.2.2.2.2.2.2.2.2.2.2.2.2.2.2.2.2.2.2.2.2.2.2.2.2.2.2.2.2.2.2.2.2.2.2.2.2.2.2.2.2.2.2.2.2.2.2.2.2.2.2.2.2.2.2.2.2.2.2.1 ⟨rfl, rfl, rfl, rfl, trivial⟩) trivial) ?_
  refine And.intro (fun _ => And.intro (am_T_lv hcs.2.2.2.2.2.2.2.2.2.2.2.2.2.2.2.2.2.2.2.2.2.2.2.2.2.2.2.2.2.2.2.2.2.2.2.2.2.2.2.2.2.2.2.2.2.2.2.2.2.2.2.2.2.2.2.2.2.2.2.2.1 ⟨rfl, rfl, rfl, rfl, trivial⟩) trivial) ?_
  refine And.intro (fun _ => And.intro (am_T_lv hcs.2.2.2.2.2.2.2.2.2.2.2.2.2.2.2.2.2.2.2.2.2.2.2.2.2.2.2.2.2.2.2.2.2.2.2.2.2.2.2.2.2.2.2.2.2.2.2.2.2.2.2.2.2.2.2.2.2.2.2.2.2.1 ⟨rfl, rfl, rfl, rfl, trivial⟩) trivial) ?_
  refine And.intro (fun _ => And.intro (am_T_lv hcs.2.2.2.2.2.2.2.2.2.2.2.2.2.2.2.2.2.2.2.2.2.2.2.2.2.2.2.2.2.2.2.2.2.2.2.2.2.2.2.2.2.2.2.2.2.2.2.2.2.2.2.2.2.2.2.2.2.2.2.2.2.2.1 ⟨rfl, rfl, rfl, rfl, trivial⟩) trivial) ?_
  refine And.intro (fun _ => And.intro (am_T_lv hcs.2.2.2.2.2.2.2.2.2.2.2.2.2.2.2.2.2.2.2.2.2.2.2.2.2.2.2.2.2.2.2.2.2.2.2.2.2.2.2.2.2.2.2.2.2.2.2.2.2.2.2.2.2.2.2.2.2.2.2.2.2.2.2.1 ⟨rfl, rfl, rfl, rfl, trivial⟩) trivial) ?_
  refine And.intro (fun _ => And.intro (am_T_lv hcs.2.2.2.2.2.2.2.2.2.2.2.2.2.2.2.2.2.2.2.2.2.2.2.2.2.2.2.2.2.2.2.2.2.2.2.2.2.2.2.2.2.2.2.2.2.2.2.2.2.2.2.2.2.2.2.2.2.2.2.2.2.2.2.2 ⟨rfl, rfl, rfl, rfl, trivial⟩) trivial) ?_
  exact trivial
theorem law_loop {sl : Nat} (hs : sl ≤ 3072) : ∀ k j e t I L, j + k = 513 → e.2.1 = sl → Rel Bt e t I L j → am_T am_P 400 mi_L_law 18 (LV (nI (6 * j))) [] (am_st e I L) (12 * k) (1834 * k) (fun v _ => v = some (.int 1)) := by
  intro k
  induction k with
  | zero =>
    intro j e t I L hj hsl hR
    exact law_head hsl hs (by omega) (fun h => by omega)
  | succ k ih =>
    intro j e t I L hj hsl hR
    refine law_head hsl hs (by omega) (fun hle => ?_)
    have hv : ∀ q, q < 6 → vp_in (nI (6 * j) + nI q) e.2.1 := fun q hq => by
      rw [nI_add, hsl]
      exact vp_in_nI (by omega) (by omega)
    have hN : ∀ e' t' K M, e'.2.1 = e.2.1 → Rel Bt e' t' K M (j + 1) → am_T am_P 400 mi_L_law 2403 (LV (nI (6 * j))) [] (am_st e' K M) (12 * k) (1834 * k) (fun v _ => v = some (.int 1)) := fun e' t' K M h1 h2 => by
      have h3 := ih (j + 1) e' t' K M (by omega) (h1.trans hsl) h2
      rw [show 6 * (j + 1) = 6 * j + 6 from by omega] at h3
      exact law_inc h3
    have hN2 : ∀ e' t' K M, e'.2.1 = e.2.1 → Rel Bt e' t' K M (j + 1) → am_T am_P 400 mi_L_law 2403 (LV (nI (6 * j))) [] (am_st e' K M) (12 * (k + 1)) (1834 * (k + 1)) (fun v _ => v = some (.int 1)) := fun e' t' K M h1 h2 => am_T_b (hN e' t' K M h1 h2) (by omega) (by omega)
    have hN3 : ∀ e' t' K M, e'.2.1 = e.2.1 → Rel Bt e' t' K M (j + 1) → am_T am_P 400 mi_L_law 2403 (LV (nI (6 * j))) [] (am_st e' K M) (12 * (k + 1) - 12) (1834 * (k + 1) - 1834) (fun v _ => v = some (.int 1)) := fun e' t' K M h1 h2 => am_T_b (hN e' t' K M h1 h2) (by omega) (by omega)
    have hm : j < 1000000 := by omega
    exact ⟨hN2 e t I L rfl (Rel_s1 hR), lc_0 hR hm hv hN2, lc_1 hR hm hv hN2, lc_2 hR hm hv hN2, lc_3 hR hm hv hN2, lc_4 hR hm hv hN2, lc_5 hR hm hv hN2, lc_6 hR hm hv hN2, lc_7 hR hm hv hN2, lc_8 hR hm hv hN2, lc_9 hR hm hv hN2, lc_10 hR hm hv hN2, lc_11 hR hm hv hN2, lc_12 hR hm hv hN2, lc_13 hR hm hv hN2, lc_14 hR hm hv hN2, lc_15 hR hm hv hN2, lc_16 hR hm hv hN2, lc_17 hR hm hv hN2, lc_18 hR hm hv hN2, lc_19 hR hm hv hN2, lc_20 hR hm hv hN2, lc_21 hR hm hv hN2, lc_22 hR hm hv hN2, lc_23 hR hm hv hN2, lc_24 hR hm hv hN2, lc_25 hR hm hv hN2, lc_26 hR hm hv hN2, lc_27 hR hm hv hN2, lc_28 hR hm hv hN2, lc_29 hR hm hv hN2, lc_30 hR hm hv hN2, lc_31 hR hm hv hN2, lc_32 hR hm hv hN2, lc_33 hR hm hv hN2, lc_34 hR hm hv hN2, lc_35 hR hm hv hN2, lc_36 hR hm hv hN2, lc_37 hR hm hv hN2, lc_38 hR hm hv hN2, lc_39 hR hm hv hN2, lc_40 hR hm hv hN2, lc_41 hR hm hv hN2, lc_42 hR hm hv hN2, lc_43 hR hm hv hN2, lc_44 hR hm hv hN2, lc_45 hR hm hv hN2, lc_46 hR hm hv hN2, lc_47 hR hm hv hN2, lc_48 hR hm hv hN2, lc_49 hR hm hv hN2, lc_50 hR hm hv hN2, lc_51 hR hm hv hN2, lc_52 hR hm hv hN2, lc_53 hR hm hv hN2, lc_54 hR hm hv hN2, lc_55 hR hm hv hN2, lc_56 hR hm hv hN2, lc_57 hR hm hv hN2, lc_58 hR hm hv hN2, lc_59 hR hm hv hN2, lc_60 hR hm hv (by omega) (by omega) hN3, lc_61 hR hm hv hN2, lc_62 hR hm hv hN2, lc_63 hR hm hv hN2, lc_64 hR hm hv hN2⟩
theorem tab_r1 {sl : Nat} : ∀ a, a < 97 → am_r1 (am_im (none, none, none)) sl a = tabr a := by
  intro a ha
  funext k
  unfold am_r1
  cases h27 : Nat.beq a 27 with
  | true =>
    rw [Nat.eq_of_beq_eq_true h27]
    match k with
    | 0 => rfl
    | 1 => rfl
    | 2 => rfl
    | k + 3 => rfl
  | false =>
    cases ho : Nat.beq a am_old with
    | true =>
      have := Nat.eq_of_beq_eq_true ho
      have h2 : am_old = 1000000 := rfl
      omega
    | false => rfl
set_option maxRecDepth 100000 in
set_option maxHeartbeats 4000000 in
theorem law_all {xs : Nat → Int32} {L : Nat} (hL : L ≤ 3072) {I0 : Nat → Nat → Int32} : am_T am_P 400 mi_L_law 0 [(0, .ref am_old)] [] (I0, (fun _ _ => 0), am_r1 (am_im (none, none, none)) L, 0) 600000 7302250 (fun v _ => v = some (.int 1)) := by
  refine am_run_rows am_OK am_lr [18] 30 _ _ _ _ _ _ ?_
  refine ⟨show 1 ≤ 600000 from by decide, show 14 ≤ 7302250 from by decide, 72, 9548, show 72 ≤ 599999 from by decide, show 9548 ≤ 7302236 from by decide, ?_⟩
  refine am_C_d (k_X10 (fun a _ h2 => tab_r1 a (by omega)) (fun J1 M1 a1 a2 a3 a4 a5 a6 a7 a8 a9 a10 a11 => ?_)) (by decide)
  refine ⟨show 1 ≤ 599927 from by decide, show 46 ≤ 7292688 from by decide, 23, 9355, show 23 ≤ 599926 from by decide, show 9355 ≤ 7292642 from by decide, ?_⟩
  refine am_C_d (k_X11 (fun a _ h2 => tab_r1 a (by omega)) (fun J2 M2 b1 b2 b3 b4 b5 => ?_)) (by decide)
  have hR : Rel Bt ((none, none, none), L, 97) t0z J2 M2 0 := Rel_0 (by rw [b1 37 (by omega)]; exact a2) (by rw [b1 37 (by omega)]; exact a3) (by rw [b1 37 (by omega)]; exact a4) (by rw [b1 0 (by omega)]; exact a5) (by rw [b1 0 (by omega)]; exact a6) (by rw [b1 1 (by omega)]; exact a7) (by rw [b1 3 (by omega)]; exact a8) (by rw [b1 4 (by omega)]; exact a9) (by rw [b1 5 (by omega)]; exact a10) (fun s hs => by rw [b1 (29 + 2 * s) (by omega)]; exact a11 s hs) b2 b3 b4 b5
  have hlp := law_loop hL 513 0 ((none, none, none), L, 97) t0z J2 M2 (by omega) rfl hR
  exact And.intro (am_T_b (am_T_lv hlp ⟨rfl, rfl, rfl, rfl, trivial⟩) (show 12 * 513 ≤ 599903 from by decide) (show 1834 * 513 ≤ 7283287 from by decide)) trivial
