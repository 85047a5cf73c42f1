/-! instructions on objects and arrays -/
theorem am_ofNat_in {n : Nat} (h : n < 2 ^ 31) : ¬ Int32.ofNat n < 0 ∧ (Int32.ofNat n).toNatClampNeg = n := ⟨nI_pos h, nI_clamp h⟩
theorem am_ln_lt (a : Nat) : am_ln a < 4000 := by
  rcases Nat.lt_or_ge a 133 with h | h
  · have : ∀ i, i < 133 → am_ln i < 4000 := by decide +kernel
    exact this a h
  · unfold am_ln
    rw [List.getD_eq_getElem?_getD, List.getElem?_eq_none (show am_sh.length ≤ a from h)]
    exact Nat.le_of_ble_eq_true rfl
theorem am_fl_e {own : String} {wp ix c k : Nat} (h : am_fl own wp ix c k = true) : Cond.fieldLink own ix (am_tT c k).1 (am_tT c k).2.1 (am_tT c k).2.2.1 ∈ am_wg ∨ ∃ host, Cond.fieldLinkNest own ix (am_tT c k).1 (am_tT c k).2.1 (am_tT c k).2.2.1 host ∈ am_wn := by
  unfold am_fl at h
  split at h
  · rename_i hw
    obtain ⟨rfl, rfl, rfl, rfl, rfl⟩ := of_decide_eq_true h
    exact Or.inl (List.mem_filter.mpr ⟨List.mem_of_getElem? hw, rfl⟩)
  · rename_i hw
    obtain ⟨rfl, rfl, rfl, rfl, rfl⟩ := of_decide_eq_true h
    exact Or.inr ⟨_, List.mem_filter.mpr ⟨List.mem_of_getElem? hw, rfl⟩⟩
  · cases h
theorem am_fs_at {G : am_G} {σ : am_S} {c a k : Nat} (hk : k < am_fn c) : ((List.range (am_fn c)).map (am_fv G σ c a))[k]? = some (am_fv G σ c a k) := by
  rw [List.getElem?_map, List.getElem?_range hk]
  rfl
theorem am_fs_set {G : am_G} {σ σ' : am_S} {c a k : Nat} (hk : k < am_fn c) (h : ∀ j, j ≠ k → am_fv G σ' c a j = am_fv G σ c a j) : (List.range (am_fn c)).map (am_fv G σ' c a) = ((List.range (am_fn c)).map (am_fv G σ c a)).set k (am_fv G σ' c a k) := by
  apply List.ext_getElem?
  intro j
  by_cases hj : j < am_fn c
  · by_cases hjk : j = k
    · subst hjk
      rw [am_fs_at hj, List.getElem?_set_self (by simpa using hj)]
    · rw [am_fs_at hj, List.getElem?_set_ne (Ne.symm hjk), am_fs_at hj, h j hjk]
  · rw [List.getElem?_eq_none (by simpa using hj), List.getElem?_eq_none (by simpa using hj)]
section AMM
variable {P : Nat → am_MI} {NM d mi pc len ix wp cb sb : Nat} {lv : am_LV} {st : List Value} {σ : am_S} {Post : Option Value → am_S → Prop}

theorem am_g_iaload (hok : am_okb P NM (P mi) (pc, .iaload, len, ix, wp) = true) (h : am_pa st (fun a i r => match Nat.beq a am_old with
    | true => (∃ L, am_R σ am_old 0 = some L ∧ vp_in i L) ∧ am_T P d mi (pc + len) lv (.int (am_I σ am_old i.toNatClampNeg) :: r) σ cb sb Post
    | false => am_b (Nat.beq (am_kd a) 13) (vp_in i (am_ln a) ∧ am_T P d mi (pc + len) lv (.int (am_I σ a i.toNatClampNeg) :: r) σ cb sb Post))) : am_T P d mi pc lv st σ cb sb Post := by
  obtain ⟨a, i, r, rfl, hB⟩ := am_pa_e h
  clear h
  have h := hB
  obtain ⟨hdg, rfl⟩ := am_dl hok
  intro G p l e R s m args below meth c H locs cells slots Q ls C h1 h2 h3 h4 h5 h6 h7 h8 h9 hr
  split at h
  · rename_i hb
    have hb := Nat.eq_of_beq_eq_true hb
    subst hb
    obtain ⟨⟨L, hL, hin⟩, h⟩ := h
    have eL : L = am_gL G := Option.some.inj (hL.symm.trans h5.2.2.2.2.2)
    subst eL
    obtain ⟨hX, hB, -⟩ := C.2.2.2.2.2.2.2.2.2.1
    refine va_sld (b := am_ga G 0) C.1 C.2.1 hX (Nat.lt_of_lt_of_le hB C.2.2.2.2.2.2.2.2.2.2) (Nat.not_le.mpr hB) h8 hin hdg ?_
    rw [← h5.2.2.2.2.1]
    exact h G p l e R s m args below meth c H locs cells slots Q ls C h1 h2 h3 h4 h5 (am_hc trivial (am_tl (am_tl h6))) h7 h8 h9 hr
  · obtain ⟨hk, hin, h⟩ := am_b_e h
    have hk := Nat.eq_of_beq_eq_true hk
    obtain ⟨ha, hlo⟩ := am_lo (am_hd (am_tl h6)) hk (by decide)
    have hc := am_cell_i h5 ha (Or.inr (Or.inl hk))
    rw [hk] at hc
    have eA : am_v G (.ref a) = .ref (am_ph G a) := by show Value.ref (am_ad G a) = _; rw [am_ad_lo hlo]
    show W p l e R s m args below meth c H locs cells slots Q (F0 m pc ls (.int i :: am_v G (.ref a) :: r.map (am_v G)))
    rw [eA]
    refine W.iald (v := .int (am_I σ a i.toNatClampNeg)) C.1 C.2.1 hc ((am_arr C.2.2.2.2.2.2.2.2.1).2.1 _ _) (fun q => by cases q) (by rw [arrV_size]; exact hin) (by rw [arrV_read _ _ (am_in_lt hin)]) rfl rfl hdg ?_
    exact h G p l e R s m args below meth c H locs cells slots Q ls C h1 h2 h3 h4 h5 (am_hc trivial (am_tl (am_tl h6))) h7 h8 h9 hr
theorem am_g_baload (hok : am_okb P NM (P mi) (pc, .baload, len, ix, wp) = true) (h : am_pa st (fun a i r => am_b (Nat.beq (am_kd a) 12 || Nat.beq (am_kd a) 15) (vp_in i (am_ln a) ∧ am_T P d mi (pc + len) lv (.int (am_I σ a i.toNatClampNeg) :: r) σ cb sb Post))) : am_T P d mi pc lv st σ cb sb Post := by
  obtain ⟨a, i, r, rfl, hB⟩ := am_pa_e h
  clear h
  have h := hB
  obtain ⟨hk, hin, h⟩ := am_b_e h
  have hk : am_kd a = 12 ∨ am_kd a = 15 := (Bool.or_eq_true _ _ ▸ hk : _ ∨ _).imp Nat.eq_of_beq_eq_true Nat.eq_of_beq_eq_true
  obtain ⟨hdg, rfl⟩ := am_dl hok
  intro G p l e R s m args below meth c H locs cells slots Q ls C h1 h2 h3 h4 h5 h6 h7 h8 h9 hr
  obtain ⟨ha, hlo⟩ := am_lo (am_hd (am_tl h6)) rfl (by omega)
  have hc := am_cell_i h5 ha (by omega)
  have eA : am_v G (.ref a) = .ref (am_ph G a) := by show Value.ref (am_ad G a) = _; rw [am_ad_lo hlo]
  show W p l e R s m args below meth c H locs cells slots Q (F0 m pc ls (.int i :: am_v G (.ref a) :: r.map (am_v G)))
  rw [eA]
  rcases hk with hk | hk
  · rw [hk] at hc
    refine W.bald (v := .int (am_I σ a i.toNatClampNeg)) C.1 C.2.1 hc ((am_arr C.2.2.2.2.2.2.2.2.1).1 _ _) (fun q => by cases q) (by rw [arrV_size]; exact hin) (by rw [arrV_read _ _ (am_in_lt hin)]) rfl rfl hdg ?_
    exact h G p l e R s m args below meth c H locs cells slots Q ls C h1 h2 h3 h4 h5 (am_hc trivial (am_tl (am_tl h6))) h7 h8 h9 hr
  · rw [hk] at hc
    refine W.zald (v := .int (am_I σ a i.toNatClampNeg)) C.1 C.2.1 hc ((am_arr C.2.2.2.2.2.2.2.2.1).2.2.2.1 _ _) (fun q => by cases q) (by rw [arrV_size]; exact hin) (by rw [arrV_read _ _ (am_in_lt hin)]) rfl rfl hdg ?_
    exact h G p l e R s m args below meth c H locs cells slots Q ls C h1 h2 h3 h4 h5 (am_hc trivial (am_tl (am_tl h6))) h7 h8 h9 hr
theorem am_g_laload (hok : am_okb P NM (P mi) (pc, .laload, len, ix, wp) = true) (h : am_pa st (fun a i r => am_b (Nat.beq (am_kd a) 14) (vp_in i (am_ln a) ∧ am_T P d mi (pc + len) lv (.long (am_L σ a i.toNatClampNeg) :: r) σ cb sb Post))) : am_T P d mi pc lv st σ cb sb Post := by
  obtain ⟨a, i, r, rfl, hB⟩ := am_pa_e h
  clear h
  have h := hB
  obtain ⟨hk, hin, h⟩ := am_b_e h
  have hk := Nat.eq_of_beq_eq_true hk
  obtain ⟨hdg, rfl⟩ := am_dl hok
  intro G p l e R s m args below meth c H locs cells slots Q ls C h1 h2 h3 h4 h5 h6 h7 h8 h9 hr
  obtain ⟨ha, hlo⟩ := am_lo (am_hd (am_tl h6)) hk (by decide)
  have hc := am_cell_l h5 ha hk
  have eA : am_v G (.ref a) = .ref (am_ph G a) := by show Value.ref (am_ad G a) = _; rw [am_ad_lo hlo]
  show W p l e R s m args below meth c H locs cells slots Q (F0 m pc ls (.int i :: am_v G (.ref a) :: r.map (am_v G)))
  rw [eA]
  refine W.lald (v := .long (am_L σ a i.toNatClampNeg)) C.1 C.2.1 hc ((am_arr C.2.2.2.2.2.2.2.2.1).2.2.1 _ _) (fun q => by cases q) (by rw [arrV_size]; exact hin) (by rw [arrV_read _ _ (am_in_lt hin)]) rfl rfl hdg ?_
  exact h G p l e R s m args below meth c H locs cells slots Q ls C h1 h2 h3 h4 h5 (am_hc trivial (am_tl (am_tl h6))) h7 h8 h9 hr
theorem am_R_old {G : am_G} {H : Heap} (h : am_Rp G σ H) {a k x : Nat} (ha : am_pm a < am_n σ) (hx : am_R σ a k = some x) : am_pm x < am_n σ ∧ x < am_old := by
  have h1 := h.2.2.2.1 a k x ha hx
  have h2 : am_n σ < am_old := h.2.2.1
  exact ⟨h1, am_pm_gt (by unfold am_old; omega) (Nat.lt_trans h1 h2)⟩
theorem am_o_vk {G : am_G} {H : Heap} (h : am_Rp G σ H) {a k : Nat} (ha : am_pm a < am_n σ) : am_vk (am_n σ) (am_o (am_R σ a k)) := by
  cases e : am_R σ a k with
  | none => trivial
  | some x => exact Or.inl (am_R_old h ha e).1
theorem am_g_aaload (hok : am_okb P NM (P mi) (pc, .aaload, len, ix, wp) = true) (h : am_pa st (fun a i r => am_b (Nat.beq (am_kd a) 16 || Nat.beq (am_kd a) 17 || Nat.beq (am_kd a) 18) (vp_in i (am_ln a) ∧ am_T P d mi (pc + len) lv (am_o (am_R σ a i.toNatClampNeg) :: r) σ cb sb Post))) : am_T P d mi pc lv st σ cb sb Post := by
  obtain ⟨a, i, r, rfl, hB⟩ := am_pa_e h
  clear h
  have h := hB
  obtain ⟨hk, hin, h⟩ := am_b_e h
  have hk : am_kd a = 16 ∨ am_kd a = 17 ∨ am_kd a = 18 := by
    simp only [Bool.or_eq_true] at hk
    rcases hk with (hk | hk) | hk
    · exact Or.inl (Nat.eq_of_beq_eq_true hk)
    · exact Or.inr (Or.inl (Nat.eq_of_beq_eq_true hk))
    · exact Or.inr (Or.inr (Nat.eq_of_beq_eq_true hk))
  obtain ⟨hdg, rfl⟩ := am_dl hok
  intro G p l e R s m args below meth c H locs cells slots Q ls C h1 h2 h3 h4 h5 h6 h7 h8 h9 hr
  obtain ⟨ha, hlo⟩ := am_lo (am_hd (am_tl h6)) rfl (by omega)
  have hc := am_cell_q h5 ha hk
  have eA : am_v G (.ref a) = .ref (am_ph G a) := by show Value.ref (am_ad G a) = _; rw [am_ad_lo hlo]
  show W p l e R s m args below meth c H locs cells slots Q (F0 m pc ls (.int i :: am_v G (.ref a) :: r.map (am_v G)))
  rw [eA]
  have ev : va_rf ((am_R σ a i.toNatClampNeg).map (am_ph G)) = am_v G (am_o (am_R σ a i.toNatClampNeg)) := am_rf_o (fun x hx => (am_R_old h5 ha hx).2)
  have go := h G p l e R s m args below meth c H locs cells slots Q ls C h1 h2 h3 h4 h5 (am_hc (am_o_vk h5 ha) (am_tl (am_tl h6))) h7 h8 h9 hr
  rcases hk with hk | hk | hk
  · rw [hk] at hc
    exact W.aald (v := am_v G (am_o (am_R σ a i.toNatClampNeg))) C.1 C.2.1 hc ((am_arr C.2.2.2.2.2.2.2.2.1).2.2.2.2.1 _ _) rfl (fun q => by cases q) (by rw [arrV_size]; exact hin) (by rw [arrV_read _ _ (am_in_lt hin), ev]) rfl rfl hdg go
  · rw [hk] at hc
    exact W.aald (v := am_v G (am_o (am_R σ a i.toNatClampNeg))) C.1 C.2.1 hc ((am_arr C.2.2.2.2.2.2.2.2.1).2.2.2.2.2.1 _ _) rfl (fun q => by cases q) (by rw [arrV_size]; exact hin) (by rw [arrV_read _ _ (am_in_lt hin), ev]) rfl rfl hdg go
  · rw [hk] at hc
    exact W.aald (v := am_v G (am_o (am_R σ a i.toNatClampNeg))) C.1 C.2.1 hc ((am_arr C.2.2.2.2.2.2.2.2.1).2.2.2.2.2.2 _ _) rfl (fun q => by cases q) (by rw [arrV_size]; exact hin) (by rw [arrV_read _ _ (am_in_lt hin), ev]) rfl rfl hdg go
theorem am_cst {n : Nat} {c : ClassId} {mk : Int32 → Value} {f : Nat → Int32} {k : Nat} {x : Int32} : (arrV c n (fun j => mk (f j))).setSlot k (mk x) = arrV c n (fun j => mk (va_up f k x j)) := by
  rw [arrV_store]
  congr 1
  funext q
  by_cases hq : q = k
  · subst hq
    simp [updV, va_up]
  · simp [updV, va_up, hq]
theorem am_cstL {n : Nat} {c : ClassId} {mk : Int64 → Value} {f : Nat → Int64} {k : Nat} {x : Int64} : (arrV c n (fun j => mk (f j))).setSlot k (mk x) = arrV c n (fun j => mk (va_up f k x j)) := by
  rw [arrV_store]
  congr 1
  funext q
  by_cases hq : q = k
  · subst hq
    simp [updV, va_up]
  · simp [updV, va_up, hq]
theorem am_nar_v (ty : FieldType) (x : Int32) (h : ty = .byte ∨ ty = .boolean) : narrow ty (.int x) = .int (vp_nar ty x) := by
  rcases h with rfl | rfl <;> rfl
theorem am_at_i {G : am_G} {σ : am_S} {H1 : Heap} {a : Nat} {f : Nat → Int32} (hk : am_kd a = 12 ∨ am_kd a = 13 ∨ am_kd a = 15) (h : H1[am_ph G a]? = some (arrV (am_gc G (am_kd a)) (am_ln a) (fun j => .int (f j)))) : va_at (am_gD G) am_cl (am_ph G a, am_E G (am_sI σ a f) a) H1 := by
  rw [am_E_i hk]
  have e : am_I (am_sI σ a f) a = f := if_pos rfl
  rw [e]
  exact h
theorem am_at_l {G : am_G} {σ : am_S} {H1 : Heap} {a : Nat} {f : Nat → Int64} (hk : am_kd a = 14) (h : H1[am_ph G a]? = some (arrV (am_gc G 14) (am_ln a) (fun j => .long (f j)))) : va_at (am_gD G) am_cl (am_ph G a, am_E G (am_sL σ a f) a) H1 := by
  rw [am_E_l hk]
  have e : am_L (am_sL σ a f) a = f := if_pos rfl
  rw [e]
  exact h
theorem am_g_iastore (hok : am_okb P NM (P mi) (pc, .iastore, len, ix, wp) = true) (h : am_p1i st (fun x r => am_pa r (fun a i r => am_b (Nat.beq (am_kd a) 13) (vp_in i (am_ln a) ∧ am_T P d mi (pc + len) lv r (am_sI σ a (va_up (am_I σ a) i.toNatClampNeg x)) cb sb Post)))) : am_T P d mi pc lv st σ cb sb Post := by
  obtain ⟨x, r', rfl, hA⟩ := am_p1i_e h
  obtain ⟨a, i, r, rfl, hB⟩ := am_pa_e hA
  clear h hA
  have h := hB
  obtain ⟨hk, hin, h⟩ := am_b_e h
  have hk := Nat.eq_of_beq_eq_true hk
  obtain ⟨hdg, rfl⟩ := am_dl hok
  intro G p l e R s m args below meth c H locs cells slots Q ls C h1 h2 h3 h4 h5 h6 h7 h8 h9 hr
  obtain ⟨ha, hlo⟩ := am_lo (am_hd (am_tl (am_tl h6))) hk (by decide)
  have hc := am_cell_i h5 ha (by omega)
  have eA : am_v G (.ref a) = .ref (am_ph G a) := by show Value.ref (am_ad G a) = _; rw [am_ad_lo hlo]
  show W p l e R s m args below meth c H locs cells slots Q (F0 m pc ls (.int x :: .int i :: am_v G (.ref a) :: r.map (am_v G)))
  rw [eA]
  refine W.iast C.1 C.2.1 hc (by rw [hk]; exact (am_arr C.2.2.2.2.2.2.2.2.1).2.1 _ _) (fun q => by cases q) (by rw [arrV_size]; exact hin) rfl rfl hdg fun H1 e1 z1 o1 => ?_
  rw [am_cst] at e1
  exact h G p l e R s m args below meth c H1 _ cells slots Q ls C h1 h2 h3 h4 (am_Rp_i h5 ha z1 o1 (am_at_i (by omega) e1)) (am_tl (am_tl (am_tl h6))) h7 (h8.put z1 o1 (Nat.le_add_right _ _)) h9 hr
theorem am_g_lastore (hok : am_okb P NM (P mi) (pc, .lastore, len, ix, wp) = true) (h : am_p1l st (fun x r => am_pa r (fun a i r => am_b (Nat.beq (am_kd a) 14) (vp_in i (am_ln a) ∧ am_T P d mi (pc + len) lv r (am_sL σ a (va_up (am_L σ a) i.toNatClampNeg x)) cb sb Post)))) : am_T P d mi pc lv st σ cb sb Post := by
  obtain ⟨x, r', rfl, hA⟩ := am_p1l_e h
  obtain ⟨a, i, r, rfl, hB⟩ := am_pa_e hA
  clear h hA
  have h := hB
  obtain ⟨hk, hin, h⟩ := am_b_e h
  have hk := Nat.eq_of_beq_eq_true hk
  obtain ⟨hdg, rfl⟩ := am_dl hok
  intro G p l e R s m args below meth c H locs cells slots Q ls C h1 h2 h3 h4 h5 h6 h7 h8 h9 hr
  obtain ⟨ha, hlo⟩ := am_lo (am_hd (am_tl (am_tl h6))) hk (by decide)
  have hc := am_cell_l h5 ha hk
  have eA : am_v G (.ref a) = .ref (am_ph G a) := by show Value.ref (am_ad G a) = _; rw [am_ad_lo hlo]
  show W p l e R s m args below meth c H locs cells slots Q (F0 m pc ls (.long x :: .int i :: am_v G (.ref a) :: r.map (am_v G)))
  rw [eA]
  refine W.last C.1 C.2.1 hc ((am_arr C.2.2.2.2.2.2.2.2.1).2.2.1 _ _) (fun q => by cases q) (by rw [arrV_size]; exact hin) rfl rfl hdg fun H1 e1 z1 o1 => ?_
  rw [am_cstL] at e1
  exact h G p l e R s m args below meth c H1 _ cells slots Q ls C h1 h2 h3 h4 (am_Rp_l h5 ha z1 o1 (am_at_l hk e1)) (am_tl (am_tl (am_tl h6))) h7 (h8.put z1 o1 (Nat.le_add_right _ _)) h9 hr
theorem am_g_bastore (hok : am_okb P NM (P mi) (pc, .bastore, len, ix, wp) = true) (h : am_p1i st (fun x r => am_pa r (fun a i r => match am_kd a with
    | 12 => vp_in i (am_ln a) ∧ am_T P d mi (pc + len) lv r (am_sI σ a (va_up (am_I σ a) i.toNatClampNeg (vp_nar .byte x))) cb sb Post
    | 15 => vp_in i (am_ln a) ∧ am_T P d mi (pc + len) lv r (am_sI σ a (va_up (am_I σ a) i.toNatClampNeg (vp_nar .boolean x))) cb sb Post
    | _ => False))) : am_T P d mi pc lv st σ cb sb Post := by
  obtain ⟨x, r', rfl, hA⟩ := am_p1i_e h
  obtain ⟨a, i, r, rfl, hB⟩ := am_pa_e hA
  clear h hA
  have h := hB
  obtain ⟨hdg, rfl⟩ := am_dl hok
  intro G p l e R s m args below meth c H locs cells slots Q ls C h1 h2 h3 h4 h5 h6 h7 h8 h9 hr
  split at h
  · rename_i hk
    obtain ⟨hin, h⟩ := h
    obtain ⟨ha, hlo⟩ := am_lo (am_hd (am_tl (am_tl h6))) hk (by decide)
    have hc := am_cell_i h5 ha (by omega)
    have eA : am_v G (.ref a) = .ref (am_ph G a) := by show Value.ref (am_ad G a) = _; rw [am_ad_lo hlo]
    show W p l e R s m args below meth c H locs cells slots Q (F0 m pc ls (.int x :: .int i :: am_v G (.ref a) :: r.map (am_v G)))
    rw [eA]
    refine W.bast C.1 C.2.1 hc (by rw [hk]; exact (am_arr C.2.2.2.2.2.2.2.2.1).1 _ _) (fun q => by cases q) (by rw [arrV_size]; exact hin) rfl rfl hdg fun H1 e1 z1 o1 => ?_
    rw [am_nar_v _ _ (Or.inl rfl), am_cst] at e1
    exact h G p l e R s m args below meth c H1 _ cells slots Q ls C h1 h2 h3 h4 (am_Rp_i h5 ha z1 o1 (am_at_i (by omega) e1)) (am_tl (am_tl (am_tl h6))) h7 (h8.put z1 o1 (Nat.le_add_right _ _)) h9 hr
  · rename_i hk
    obtain ⟨hin, h⟩ := h
    obtain ⟨ha, hlo⟩ := am_lo (am_hd (am_tl (am_tl h6))) hk (by decide)
    have hc := am_cell_i h5 ha (by omega)
    have eA : am_v G (.ref a) = .ref (am_ph G a) := by show Value.ref (am_ad G a) = _; rw [am_ad_lo hlo]
    show W p l e R s m args below meth c H locs cells slots Q (F0 m pc ls (.int x :: .int i :: am_v G (.ref a) :: r.map (am_v G)))
    rw [eA]
    refine W.zast C.1 C.2.1 hc (by rw [hk]; exact (am_arr C.2.2.2.2.2.2.2.2.1).2.2.2.1 _ _) (fun q => by cases q) (by rw [arrV_size]; exact hin) rfl rfl hdg fun H1 e1 z1 o1 => ?_
    rw [am_nar_v _ _ (Or.inr rfl), am_cst] at e1
    exact h G p l e R s m args below meth c H1 _ cells slots Q ls C h1 h2 h3 h4 (am_Rp_i h5 ha z1 o1 (am_at_i (by omega) e1)) (am_tl (am_tl (am_tl h6))) h7 (h8.put z1 o1 (Nat.le_add_right _ _)) h9 hr
  · exact h.elim
end AMM
