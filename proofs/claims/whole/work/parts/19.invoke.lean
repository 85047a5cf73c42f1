/-! the call instructions, and all instructions together -/
theorem am_cs_app (a b : List Value) : am_cs (a ++ b) = am_cs a + am_cs b := by simp [am_cs]
theorem am_cs_rev (a : List Value) : am_cs a.reverse = am_cs a := by simp [am_cs, List.map_reverse, List.sum_reverse]
theorem am_n_le {G : am_G} {σ : am_S} {H : Heap} (h : am_Rp G σ H) : ∀ σ' H', am_Rp G σ' H' → H.size ≤ H'.size → am_n σ ≤ am_n σ' := by
  intro σ' H' h' hz
  have := h.2.1
  have := h'.2.1
  omega
section AMI
variable {P : Nat → am_MI} {NM d mi pc len ix wp cb sb : Nat} {lv : am_LV} {st : List Value} {σ : am_S} {Post : Option Value → am_S → Prop}
theorem am_g_invokevirtual (hP : am_okP P NM) {mi' : Nat} (hok : am_okb P NM (P mi) (pc, .invokevirtual mi', len, ix, wp) = true) (h : am_b (Nat.ble (am_ma (P mi') + 1) st.length) (am_b (Nat.ble (am_cs (st.drop (am_ma (P mi') + 1))) 8 && Nat.ble (am_cs (st.take (am_ma (P mi') + 1))) (am_ml (P mi'))) (am_pr (st.drop (am_ma (P mi'))) (fun a r => am_b (Nat.beq (am_kd a) (am_mc (P mi'))) (∃ mc ms, mc ≤ cb ∧ ms ≤ sb ∧ am_Kc P d mi' (.ref a :: (st.take (am_ma (P mi'))).reverse) σ mc ms (fun v σ' => am_T P d mi (pc + len) lv (v.toList ++ r) σ' (cb - mc) (sb - ms) Post)))))) : am_T P d mi pc lv st σ cb sb Post := by
  obtain ⟨hlen, hA⟩ := am_b_e h
  obtain ⟨hcs, hA⟩ := am_b_e hA
  obtain ⟨a, r, hst, hA⟩ := am_pr_e hA
  obtain ⟨hk, mc, ms, hmc, hms, hB⟩ := am_b_e hA
  clear h hA
  have hk := Nat.eq_of_beq_eq_true hk
  have hlen : am_ma (P mi') + 1 ≤ st.length := Nat.le_of_ble_eq_true hlen
  rw [Bool.and_eq_true] at hcs
  have hc8 : am_cs (st.drop (am_ma (P mi') + 1)) ≤ 8 := Nat.le_of_ble_eq_true hcs.1
  have hcl : am_cs (st.take (am_ma (P mi') + 1)) ≤ am_ml (P mi') := Nat.le_of_ble_eq_true hcs.2
  simp only [am_okb, Bool.and_eq_true] at hok
  obtain ⟨⟨⟨⟨⟨hle, hdg⟩, hmi⟩, hmcl⟩, hni⟩, hyl⟩ := hok
  have hle := Nat.eq_of_beq_eq_true hle
  subst hle
  have hdg := am_dc_e hdg
  have hmi : mi' < NM := Nat.le_of_ble_eq_true hmi
  have hmcl : am_mc (P mi') < 12 := Nat.le_of_ble_eq_true hmcl
  have hni : (am_my (P mi')).name ≠ "<init>" := of_decide_eq_true hni
  obtain ⟨wi, ws, wl, hokm⟩ := hP.1 mi' hmi
  obtain ⟨o1, o2, o3, o4, o5, -, o7⟩ := am_okm_e hokm
  obtain ⟨o8, -, o10, o11⟩ := o7 (by omega)
  have o11 : Cond.selects (am_my (P mi')).cls (am_my (P mi')) (am_my (P mi')) ∈ am_wg := o11.resolve_left hni
  have hst2 : st = st.take (am_ma (P mi')) ++ .ref a :: r := by rw [← hst, List.take_append_drop]
  have hr8 : am_cs r ≤ 8 := by
    have : st.drop (am_ma (P mi') + 1) = r := by
      rw [← List.drop_drop, hst]
      rfl
    rw [this] at hc8
    exact hc8
  generalize hAs : (st.take (am_ma (P mi'))).reverse = As at hB
  have hAl : As.length = am_ma (P mi') := by rw [← hAs, List.length_reverse, List.length_take]; omega
  have hst3 : st = As.reverse ++ .ref a :: r := by rw [← hAs, List.reverse_reverse]; exact hst2
  have hcas : am_cs (.ref a :: As) ≤ am_ml (P mi') := by
    have e : st.take (am_ma (P mi') + 1) = As.reverse ++ [.ref a] := by
      rw [hst3, List.take_append, List.length_reverse, hAl]
      simp [hAl]
      rw [List.take_of_length_le (by simp; omega)]
    rw [e, am_cs_app, am_cs_rev] at hcl
    have : am_cs (.ref a :: As) = am_cs [.ref a] + am_cs As := am_cs_app [.ref a] As
    omega
  clear hst hst2 hAs hcl hlen hcs hc8
  subst hst3
  cases d with
  | zero => exact hB.elim
  | succ d =>
    intro G p l e R s m args below meth c H locs cells slots Q ls C h1 h2 h3 h4 h5 h6 h7 h8 h9 hr
    have hwf : ∀ v ∈ .ref a :: As, am_vk (am_n σ) v := fun v hv => h6 v (by
      rcases List.mem_cons.mp hv with rfl | hv
      · exact List.mem_append_right _ List.mem_cons_self
      · exact List.mem_append_left _ (List.mem_reverse.mpr hv))
    obtain ⟨ha, hlo⟩ := am_lo (hwf _ List.mem_cons_self) hk (by omega)
    have eA : am_v G (.ref a) = .ref (am_ph G a) := by show Value.ref (am_ad G a) = _; rw [am_ad_lo hlo]
    have hM := am_met l G hokm hwf hcas hB
    have hmap : (Value.ref a :: As).map (am_v G) = .ref (am_ph G a) :: As.map (am_v G) := by rw [List.map_cons, eA]
    have hpre := am_preU (as := .ref a :: As) C h5 h8
    rw [hmap] at hpre
    have hrecv := va_recv C.2.2.2.2.2.2.2.2.1.1 h5.1 (am_clat _ hmcl) (am_W_o ha hk hmcl)
    have hrecv : ∃ cellB : Cell, H[am_ph G a]? = some cellB ∧ cellB.vm.isStatics = false ∧ s.vm.findClass (am_my (P mi')).cls = some cellB.cls := by rw [← o10]; exact hrecv
    have hstk : (List.map (am_v G) (As.reverse ++ .ref a :: r)) = (As.map (am_v G)).reverse ++ .ref (am_ph G a) :: r.map (am_v G) := by rw [List.map_append, List.map_cons, eA, List.map_reverse]
    have hroom := lv_room (m := m) (pc := pc) (ls := ls) (rest := List.map (am_v G) (As.reverse ++ .ref a :: r)) (st := r.map (am_v G)) (by rw [am_cs_m]; exact hr8)
    have hRR : d + 1 ≤ R.frames ∧ 8 + (am_ml (P mi') + 11) + 200 * d ≤ R.locals := ⟨h1, by omega⟩
    have hts := C.2.2.2.2.2.2.2.1
    have S : CallFix p m c (am_mb (P mi)) (am_ml (P mi)) s args am_wg (am_my (P mi)).cls := ⟨C.1, C.2.1, C.2.2.1, C.2.2.2.2.2.1, hts⟩
    refine am_back (PostC := _) C h1 h2 h3 h4 hmc hms (am_n_le h5) (fun v hv => h6 v (List.mem_append_right _ (List.mem_cons_of_mem _ hv))) h7 h8 h9 hr (fun v σ' hv => hv) (a := (.ref (am_ph G a) :: As.map (am_v G)).toArray) ?_
    rcases am_yl_e hyl with hl | ⟨host, hl⟩
    · refine va_runV S hM (cwV (am_ma (P mi')) hts (am_gw ?_) rfl rfl rfl ⟨rfl, o4⟩ hRR) ⟨am_blind G _ σ, hrecv, hpre⟩ rfl (by rw [List.length_map]; exact hAl) h9.1 hstk hroom hdg ⟨by omega, by omega⟩
      intro w hw
      simp only [wsV, List.mem_append, List.mem_cons, List.not_mem_nil, or_false] at hw
      rcases hw with (rfl | rfl | rfl | rfl) | rfl | hw
      · exact hl
      · exact o8
      · exact o11
      · exact o2
      · exact o1
      · exact hw
    · refine va_runVN (C := (am_my (P mi')).cls) (host := host) S hM ⟨va_cnB (am_ma (P mi')) hts (am_gw ?_) rfl rfl rfl (C.2.2.2.2.2.2.2.2.1.2.1 _ hl) (hts _ o2) o4 hRR, hts _ o8, hts _ o11⟩ ⟨am_blind G _ σ, hrecv, hpre⟩ rfl (by rw [List.length_map]; exact hAl) h9.1 hstk hroom hdg ⟨by omega, by omega⟩
      intro w hw
      rcases List.mem_cons.mp hw with rfl | hw
      · exact o1
      · exact hw
theorem am_g_invokespecial (hP : am_okP P NM) {mi' : Nat} (hok : am_okb P NM (P mi) (pc, .invokespecial mi', len, ix, wp) = true) (h : am_b (Nat.ble (am_ma (P mi') + 1) st.length) (am_b (Nat.ble (am_cs (st.drop (am_ma (P mi') + 1))) 8 && Nat.ble (am_cs (st.take (am_ma (P mi') + 1))) (am_ml (P mi'))) (am_pr (st.drop (am_ma (P mi'))) (fun a r => ∃ mc ms, mc ≤ cb ∧ ms ≤ sb ∧ am_Kc P d mi' (.ref a :: (st.take (am_ma (P mi'))).reverse) σ mc ms (fun v σ' => am_T P d mi (pc + len) lv (v.toList ++ r) σ' (cb - mc) (sb - ms) Post))))) : am_T P d mi pc lv st σ cb sb Post := by
  obtain ⟨hlen, hA⟩ := am_b_e h
  obtain ⟨hcs, hA⟩ := am_b_e hA
  obtain ⟨a, r, hst, mc, ms, hmc, hms, hB⟩ := am_pr_e hA
  clear h hA
  have hlen : am_ma (P mi') + 1 ≤ st.length := Nat.le_of_ble_eq_true hlen
  rw [Bool.and_eq_true] at hcs
  have hc8 : am_cs (st.drop (am_ma (P mi') + 1)) ≤ 8 := Nat.le_of_ble_eq_true hcs.1
  have hcl : am_cs (st.take (am_ma (P mi') + 1)) ≤ am_ml (P mi') := Nat.le_of_ble_eq_true hcs.2
  simp only [am_okb, Bool.and_eq_true] at hok
  obtain ⟨⟨⟨⟨⟨hle, hdg⟩, hmi⟩, hmcl⟩, hyl⟩, hni⟩ := hok
  have hle := Nat.eq_of_beq_eq_true hle
  subst hle
  have hdg := am_dc_e hdg
  have hmi : mi' < NM := Nat.le_of_ble_eq_true hmi
  have hmcl : am_mc (P mi') < 12 := Nat.le_of_ble_eq_true hmcl
  have hni : (am_my (P mi')).name = "<init>" := of_decide_eq_true hni
  obtain ⟨wi, ws, wl, hokm⟩ := hP.1 mi' hmi
  obtain ⟨o1, o2, o3, o4, o5, -, o7⟩ := am_okm_e hokm
  obtain ⟨o8, -, -, -⟩ := o7 (by omega)
  have hst2 : st = st.take (am_ma (P mi')) ++ .ref a :: r := by rw [← hst, List.take_append_drop]
  have hr8 : am_cs r ≤ 8 := by
    have : st.drop (am_ma (P mi') + 1) = r := by
      rw [← List.drop_drop, hst]
      rfl
    rw [this] at hc8
    exact hc8
  generalize hAs : (st.take (am_ma (P mi'))).reverse = As at hB
  have hAl : As.length = am_ma (P mi') := by rw [← hAs, List.length_reverse, List.length_take]; omega
  have hst3 : st = As.reverse ++ .ref a :: r := by rw [← hAs, List.reverse_reverse]; exact hst2
  have hcas : am_cs (.ref a :: As) ≤ am_ml (P mi') := by
    have e : st.take (am_ma (P mi') + 1) = As.reverse ++ [.ref a] := by
      rw [hst3, List.take_append, List.length_reverse, hAl]
      simp [hAl]
      rw [List.take_of_length_le (by simp; omega)]
    rw [e, am_cs_app, am_cs_rev] at hcl
    have : am_cs (.ref a :: As) = am_cs [.ref a] + am_cs As := am_cs_app [.ref a] As
    omega
  clear hst hst2 hAs hcl hlen hcs hc8
  subst hst3
  cases d with
  | zero => exact hB.elim
  | succ d =>
    intro G p l e R s m args below meth c H locs cells slots Q ls C h1 h2 h3 h4 h5 h6 h7 h8 h9 hr
    have hwf : ∀ v ∈ .ref a :: As, am_vk (am_n σ) v := fun v hv => h6 v (by
      rcases List.mem_cons.mp hv with rfl | hv
      · exact List.mem_append_right _ List.mem_cons_self
      · exact List.mem_append_left _ (List.mem_reverse.mpr hv))
    have hM := am_met l G hokm hwf hcas hB
    have hr0 : ∀ r0, (am_mr (P mi')) = r0 → r0 = none → Met l (am_my (P mi')) (.code (am_my (P mi')) (am_mb (P mi')) (am_ml (P mi')) none :: am_wg) ({ frames := d, cells := mc, slots := ms, locals := 200 * d }) (am_Pc G (.ref a :: As) σ) (am_Qc G (fun v σ' => am_T P (d + 1) mi (pc + 3) lv (v.toList ++ r) σ' (cb - mc) (sb - ms) Post)) mc ms (am_A G) := fun r0 e1 e2 => by rw [e1, e2] at hM; exact hM
    have hpre := am_preU (as := .ref a :: As) C h5 h8
    have hstk : (List.map (am_v G) (As.reverse ++ .ref a :: r)) = (As.map (am_v G)).reverse ++ .ref (am_ad G a) :: r.map (am_v G) := by rw [List.map_append, List.map_cons, List.map_reverse]; rfl
    have hroom := lv_room (m := m) (pc := pc) (ls := ls) (rest := List.map (am_v G) (As.reverse ++ .ref a :: r)) (st := r.map (am_v G)) (by rw [am_cs_m]; exact hr8)
    have hRR : d + 1 ≤ R.frames ∧ 8 + (am_ml (P mi') + 11) + 200 * d ≤ R.locals := ⟨h1, by omega⟩
    have hts := C.2.2.2.2.2.2.2.1
    have S : CallFix p m c (am_mb (P mi)) (am_ml (P mi)) s args am_wg (am_my (P mi)).cls := ⟨C.1, C.2.1, C.2.2.1, C.2.2.2.2.2.1, hts⟩
    have hnone : am_mr (P mi') = none := hP.2.2 mi' hmi hni
    have hM := hr0 _ rfl hnone
    have o1 : Cond.code (am_my (P mi')) (am_mb (P mi')) (am_ml (P mi')) none ∈ am_wg := by rw [← hnone]; exact o1
    refine am_back (PostC := _) C h1 h2 h3 h4 hmc hms (am_n_le h5) (fun v hv => h6 v (List.mem_append_right _ (List.mem_cons_of_mem _ hv))) h7 h8 h9 hr (fun v σ' hv => hv) (a := (.ref (am_ad G a) :: As.map (am_v G)).toArray) ?_
    rcases am_yl_e hyl with hl | ⟨host, hl⟩
    · refine va_runI S hM (cwI (am_ma (P mi')) hts (am_gw ?_) rfl rfl rfl (hts _ o2) (hts _ hl) (hts _ o8) hni o4 hRR) ⟨am_blind G _ σ, hpre⟩ rfl (by rw [List.length_map]; exact hAl) h9.1 hstk hroom hdg ⟨by omega, by omega⟩
      intro w hw
      rcases List.mem_cons.mp hw with rfl | hw
      · exact o1
      · exact hw
    · refine va_runIN (host := host) S hM ⟨va_cnB (am_ma (P mi')) hts (am_gw ?_) rfl rfl rfl (C.2.2.2.2.2.2.2.2.1.2.1 _ hl) (hts _ o2) o4 hRR, hni, hts _ o8⟩ ⟨am_blind G _ σ, hpre⟩ rfl (by rw [List.length_map]; exact hAl) h9.1 hstk hroom hdg ⟨by omega, by omega⟩
      intro w hw
      rcases List.mem_cons.mp hw with rfl | hw
      · exact o1
      · exact hw
theorem am_g_invokestatic (hP : am_okP P NM) {mi' : Nat} (hok : am_okb P NM (P mi) (pc, .invokestatic mi', len, ix, wp) = true) (h : am_b (Nat.ble (am_ma (P mi')) st.length) (am_b (Nat.ble (am_cs (st.drop (am_ma (P mi')))) 8 && Nat.ble (am_cs (st.take (am_ma (P mi')))) (am_ml (P mi'))) (∃ mc ms, mc ≤ cb ∧ ms ≤ sb ∧ am_Kc P d mi' (st.take (am_ma (P mi'))).reverse σ mc ms (fun v σ' => am_T P d mi (pc + len) lv (v.toList ++ st.drop (am_ma (P mi'))) σ' (cb - mc) (sb - ms) Post)))) : am_T P d mi pc lv st σ cb sb Post := by
  obtain ⟨hlen, hA⟩ := am_b_e h
  obtain ⟨hcs, mc, ms, hmc, hms, hB⟩ := am_b_e hA
  clear h hA
  have hlen : am_ma (P mi') ≤ st.length := Nat.le_of_ble_eq_true hlen
  rw [Bool.and_eq_true] at hcs
  have hc8 : am_cs (st.drop (am_ma (P mi'))) ≤ 8 := Nat.le_of_ble_eq_true hcs.1
  have hcl : am_cs (st.take (am_ma (P mi'))) ≤ am_ml (P mi') := Nat.le_of_ble_eq_true hcs.2
  simp only [am_okb, Bool.and_eq_true] at hok
  obtain ⟨⟨⟨⟨hle, hdg⟩, hmi⟩, hmcl⟩, hyl⟩ := hok
  have hle := Nat.eq_of_beq_eq_true hle
  subst hle
  have hdg := am_dc_e hdg
  have hmi : mi' < NM := Nat.le_of_ble_eq_true hmi
  have hmcl : am_mc (P mi') = 50 := Nat.eq_of_beq_eq_true hmcl
  obtain ⟨wi, ws, wl, hokm⟩ := hP.1 mi' hmi
  obtain ⟨o1, o2, o3, o4, o5, o6, -⟩ := am_okm_e hokm
  have o8 := o6 hmcl
  generalize hAs : (st.take (am_ma (P mi'))).reverse = As at hB
  generalize hr' : st.drop (am_ma (P mi')) = r at hB hc8
  have hAl : As.length = am_ma (P mi') := by rw [← hAs, List.length_reverse, List.length_take]; omega
  have hst3 : st = As.reverse ++ r := by rw [← hAs, List.reverse_reverse, ← hr', List.take_append_drop]
  have hcas : am_cs As ≤ am_ml (P mi') := by rw [← hAs, am_cs_rev]; exact hcl
  clear hAs hr' hcl hlen hcs
  subst hst3
  cases d with
  | zero => exact hB.elim
  | succ d =>
    intro G p l e R s m args below meth c H locs cells slots Q ls C h1 h2 h3 h4 h5 h6 h7 h8 h9 hr
    have hwf : ∀ v ∈ As, am_vk (am_n σ) v := fun v hv => h6 v (List.mem_append_left _ (List.mem_reverse.mpr hv))
    have hM := am_met l G hokm hwf hcas hB
    have hpre := am_preU (as := As) C h5 h8
    have hstk : (List.map (am_v G) (As.reverse ++ r)) = (As.map (am_v G)).reverse ++ r.map (am_v G) := by rw [List.map_append, List.map_reverse]
    have hroom := lv_room (m := m) (pc := pc) (ls := ls) (rest := List.map (am_v G) (As.reverse ++ r)) (st := r.map (am_v G)) (by rw [am_cs_m]; exact hc8)
    have hRR : d + 1 ≤ R.frames ∧ 8 + (am_ml (P mi') + 11) + 200 * d ≤ R.locals := ⟨h1, by omega⟩
    have hts := C.2.2.2.2.2.2.2.1
    have S : CallFix p m c (am_mb (P mi)) (am_ml (P mi)) s args am_wg (am_my (P mi)).cls := ⟨C.1, C.2.1, C.2.2.1, C.2.2.2.2.2.1, hts⟩
    refine am_back (PostC := _) C h1 h2 h3 h4 hmc hms (am_n_le h5) (fun v hv => h6 v (List.mem_append_right _ hv)) h7 h8 h9 hr (fun v σ' hv => hv) (a := (As.map (am_v G)).toArray) ?_
    rcases am_yl_e hyl with hl | ⟨host, hl⟩
    · refine va_runS S hM (va_cwS (am_ma (P mi')) hts (am_gw ?_) rfl rfl rfl o4 hRR) ⟨am_blind G _ σ, hpre⟩ rfl (by rw [List.length_map]; exact hAl) h9.1 hstk hroom hdg ⟨by omega, by omega⟩
      intro w hw
      simp only [va_wsS, List.mem_append, List.mem_cons, List.not_mem_nil, or_false] at hw
      rcases hw with (rfl | rfl | rfl) | rfl | hw
      · exact hl
      · exact o8
      · exact o2
      · exact o1
      · exact hw
    · refine va_runSN (host := host) S hM ⟨va_cnB (am_ma (P mi')) hts (am_gw ?_) rfl rfl rfl (C.2.2.2.2.2.2.2.2.1.2.1 _ hl) (hts _ o2) o4 hRR, hts _ o8, trivial⟩ ⟨am_blind G _ σ, hpre⟩ rfl (by rw [List.length_map]; exact hAl) h9.1 hstk hroom hdg ⟨by omega, by omega⟩
      intro w hw
      rcases List.mem_cons.mp hw with rfl | hw
      · exact o1
      · exact hw
end AMI
