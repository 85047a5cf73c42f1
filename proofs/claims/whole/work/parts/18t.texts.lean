/-! the instructions on texts -/
theorem am_xl31 (j : Nat) : am_xl.getD j 0 < 2 ^ 31 := by
  rcases Nat.lt_or_ge j 8 with h | h
  · have : ∀ i, i < 8 → am_xl.getD i 0 < 2 ^ 31 := by decide +kernel
    exact this j h
  · rw [List.getD_eq_getElem?_getD, List.getElem?_eq_none (show am_xl.length ≤ j from h)]
    exact Nat.le_of_ble_eq_true rfl
theorem am_adx (G : am_G) (j : Nat) : am_ad G (am_old + 1 + j) = am_ga G (1 + j) := by
  unfold am_ad
  rw [if_neg (by omega), show am_old + 1 + j - am_old = 1 + j by omega]
section AMT
variable {P : Nat → am_MI} {NM d mi pc len ix wp cb sb : Nat} {lv : am_LV} {st : List Value} {σ : am_S} {Post : Option Value → am_S → Prop}
theorem am_g_ldc {j : Nat} (hok : am_okb P NM (P mi) (pc, .ldc j, len, ix, wp) = true) (h : am_b (Nat.blt j 8) (am_T P d mi (pc + len) lv (.ref (am_old + 1 + j) :: st) σ cb sb Post)) : am_T P d mi pc lv st σ cb sb Post := by
  obtain ⟨hj, hB⟩ := am_b_e h
  have hj : j < 8 := Nat.le_of_ble_eq_true hj
  simp only [am_okb, Bool.and_eq_true] at hok
  obtain ⟨⟨⟨⟨hle, hdg⟩, -⟩, hcl⟩, hix⟩ := hok
  have hle := Nat.eq_of_beq_eq_true hle
  subst hle
  have hix := Nat.eq_of_beq_eq_true hix
  subst hix
  have hdg := am_dc_e hdg
  have hcl : (am_my (P mi)).cls = "SpentTurns$Reader" := of_decide_eq_true hcl
  intro G p l e R s m args below meth c H locs cells slots Q ls C h1 h2 h3 h4 h5 h6 h7 h8 h9 hr
  have hown := C.2.2.2.2.2.1
  rw [hcl] at hown
  have ea := am_adx G j
  have go := hB G p l e R s m args below meth c H locs cells slots Q ls C h1 h2 h3 h4 h5 (am_hc (Or.inr (by omega)) h6) h7 h8 h9 hr
  have ev : List.map (am_v G) (Value.ref (am_old + 1 + j) :: st) = .ref (am_ga G (1 + j)) :: st.map (am_v G) := by
    rw [List.map_cons]
    show Value.ref (am_ad G (am_old + 1 + j)) :: _ = _
    rw [ea]
  rw [ev] at go
  exact va_ldcS C.1 C.2.1 hown (C.2.2.2.2.2.2.2.2.1.2.2.2.2.1 j hj) hdg go
theorem am_tx_id {a : Nat} (h : (Nat.blt am_old a && Nat.ble a (am_old + 8)) = true) : ∃ j, j < 8 ∧ a = am_old + 1 + j ∧ a - am_old - 1 = j := by
  rw [Bool.and_eq_true] at h
  have h1 : am_old < a := Nat.le_of_ble_eq_true h.1
  have h2 : a ≤ am_old + 8 := Nat.le_of_ble_eq_true h.2
  exact ⟨a - am_old - 1, by omega, by omega, rfl⟩
theorem am_g_fadd (hok : am_okb P NM (P mi) (pc, .fadd, len, ix, wp) = true) (h : am_pr st (fun a r => am_b (Nat.ble 3 d && Nat.ble (am_cs r) 8 && (Nat.blt am_old a && Nat.ble a (am_old + 8))) (am_T P d mi (pc + len) lv (.int (Int32.ofNat (am_xl.getD (a - am_old - 1) 0)) :: r) σ cb sb Post))) : am_T P d mi pc lv st σ cb sb Post := by
  obtain ⟨a, r, rfl, hA⟩ := am_pr_e h
  obtain ⟨hd, hB⟩ := am_b_e hA
  clear h hA
  rw [Bool.and_eq_true, Bool.and_eq_true] at hd
  have hd3 : 3 ≤ d := Nat.le_of_ble_eq_true hd.1.1
  have hcs : am_cs r ≤ 8 := Nat.le_of_ble_eq_true hd.1.2
  obtain ⟨j, hj, rfl, ej⟩ := am_tx_id hd.2
  rw [ej] at hB
  simp only [am_okb, Bool.and_eq_true] at hok
  obtain ⟨⟨hle, hdg⟩, hw⟩ := hok
  have hle := Nat.eq_of_beq_eq_true hle
  subst hle
  have hdg := am_dc_e hdg
  have hw : Cond.methodLink (am_my (P mi)).cls ix xy_len ∈ am_wg := am_wd_g hw rfl
  intro G p l e R s m args below meth c H locs cells slots Q ls C h1 h2 h3 h4 h5 h6 h7 h8 h9 hr
  have hts := C.2.2.2.2.2.2.2.1
  have hTx := C.2.2.2.2.2.2.2.2.2.1.2.2
  have ea := am_adx G j
  show W p l e R s m args below meth c H locs cells slots Q (F0 m pc ls (.ref (am_ad G (am_old + 1 + j)) :: r.map (am_v G)))
  rw [ea]
  have S : CallFix p m c (am_mb (P mi)) (am_ml (P mi)) s args am_wg (am_my (P mi)).cls := ⟨C.1, C.2.1, C.2.2.1, C.2.2.2.2.2.1, hts⟩
  refine am_pback (r := some (.int (Int32.ofNat (am_xl.getD j 0)))) (va_runV (As := []) (rest := r.map (am_v G)) S (xm_len l G j hj) (cwV 0 hts (am_gw (by
    intro w hw'
    simp only [wsV, List.mem_append, List.mem_cons, List.not_mem_nil, or_false] at hw'
    rcases hw' with (rfl | rfl | rfl | rfl) | rfl | hw'
    · exact hw
    · exact xw_i_len
    · exact xw_s_len
    · exact xw_nS
    · exact xc_len
    · exact hw')) rfl rfl rfl (by decide +kernel) ⟨by show 2 + 1 ≤ _; omega, by show 8 + (1 + 11) + 200 * 2 ≤ _; omega⟩) ⟨am_pblind G _, vk_recv hTx.1 hj h8, fun U hU hW => ⟨rfl, by rw [hU]; exact am_Tx_warm hW.alike h8 hTx⟩⟩ rfl rfl h9.1 rfl (lv_room (by rw [am_cs_m]; exact hcs)) hdg ⟨by omega, by omega⟩) ?_
  exact hB G p l e R s m args below meth c H locs cells slots Q ls C h1 h2 h3 h4 h5 (am_hc trivial (am_tl h6)) h7 h8 h9 hr
theorem am_g_fsub (hok : am_okb P NM (P mi) (pc, .fsub, len, ix, wp) = true) (h : am_pa st (fun a i r => am_b (Nat.ble 5 d && Nat.ble (am_cs r) 8 && (Nat.blt am_old a && Nat.ble a (am_old + 8))) (vp_in i (am_xl.getD (a - am_old - 1) 0) ∧ am_T P d mi (pc + len) lv (.int (((am_xb.getD (a - am_old - 1) []).getD i.toNatClampNeg 0) &&& 255) :: r) σ cb sb Post))) : am_T P d mi pc lv st σ cb sb Post := by
  obtain ⟨a, i, r, rfl, hA⟩ := am_pa_e h
  obtain ⟨hd, hB⟩ := am_b_e hA
  clear h hA
  rw [Bool.and_eq_true, Bool.and_eq_true] at hd
  have hd5 : 5 ≤ d := Nat.le_of_ble_eq_true hd.1.1
  have hcs : am_cs r ≤ 8 := Nat.le_of_ble_eq_true hd.1.2
  obtain ⟨j, hj, rfl, ej⟩ := am_tx_id hd.2
  rw [ej] at hB
  obtain ⟨hi, hB⟩ := hB
  simp only [am_okb, Bool.and_eq_true] at hok
  obtain ⟨⟨hle, hdg⟩, hw⟩ := hok
  have hle := Nat.eq_of_beq_eq_true hle
  subst hle
  have hdg := am_dc_e hdg
  have hw : Cond.methodLink (am_my (P mi)).cls ix xy_cat ∈ am_wg := am_wd_g hw rfl
  intro G p l e R s m args below meth c H locs cells slots Q ls C h1 h2 h3 h4 h5 h6 h7 h8 h9 hr
  have hts := C.2.2.2.2.2.2.2.1
  have hTx := C.2.2.2.2.2.2.2.2.2.1.2.2
  have ea := am_adx G j
  show W p l e R s m args below meth c H locs cells slots Q (F0 m pc ls (.int i :: .ref (am_ad G (am_old + 1 + j)) :: r.map (am_v G)))
  rw [ea]
  have S : CallFix p m c (am_mb (P mi)) (am_ml (P mi)) s args am_wg (am_my (P mi)).cls := ⟨C.1, C.2.1, C.2.2.1, C.2.2.2.2.2.1, hts⟩
  refine am_pback (r := some (.int (((am_xb.getD j []).getD i.toNatClampNeg 0) &&& 255))) (va_runV (As := [.int i]) (rest := r.map (am_v G)) S (xm_cat l G j hj i hi (am_xl31 j)) (cwV 1 hts (am_gw (by
    intro w hw'
    simp only [wsV, List.mem_append, List.mem_cons, List.not_mem_nil, or_false] at hw'
    rcases hw' with (rfl | rfl | rfl | rfl) | rfl | hw'
    · exact hw
    · exact xw_i_cat
    · exact xw_s_cat
    · exact xw_nS
    · exact xc_cat
    · exact hw')) rfl rfl rfl (by decide +kernel) ⟨by show 4 + 1 ≤ _; omega, by show 8 + (2 + 11) + 200 * 4 ≤ _; omega⟩) ⟨am_pblind G _, vk_recv hTx.1 hj h8, fun U hU hW => ⟨rfl, by rw [hU]; exact am_Tx_warm hW.alike h8 hTx⟩⟩ rfl rfl h9.1 rfl (lv_room (by rw [am_cs_m]; exact hcs)) hdg ⟨by omega, by omega⟩) ?_
  exact hB G p l e R s m args below meth c H locs cells slots Q ls C h1 h2 h3 h4 h5 (am_hc trivial (am_tl (am_tl h6))) h7 h8 h9 hr
end AMT
