/-! objects and arrays of references that are made, switches, returns, Object.<init>, arraycopy -/
section AMR
variable {P : Nat → am_MI} {NM d mi pc len ix wp cb sb : Nat} {lv : am_LV} {st : List Value} {σ : am_S} {Post : Option Value → am_S → Prop}

theorem am_g_new {q : Nat} (hok : am_okb P NM (P mi) (pc, .new q, len, ix, wp) = true) (h : am_b (Nat.beq (am_kd (am_ip (am_n σ))) q) (1 ≤ cb ∧ am_fn q ≤ sb ∧ am_T P d mi (pc + len) lv (.ref (am_ip (am_n σ)) :: st) (am_new σ) (cb - 1) (sb - am_fn q) Post)) : am_T P d mi pc lv st σ cb sb Post := by
  obtain ⟨hk, hcb, hsb, hB⟩ := am_b_e h
  clear h
  have hk := Nat.eq_of_beq_eq_true hk
  simp only [am_okb, Bool.and_eq_true] at hok
  obtain ⟨⟨⟨hle, hdg⟩, hq⟩, hw⟩ := hok
  have hle := Nat.eq_of_beq_eq_true hle
  subst hle
  have hdg := am_dc_e hdg
  have hq : q < 12 := Nat.le_of_ble_eq_true hq
  have hw := am_wd_g hw rfl
  intro G p l e R s m args below meth c H locs cells slots Q ls C h1 h2 h3 h4 h5 h6 h7 h8 h9 hr
  obtain ⟨w1, w2⟩ := am_insw q hq
  have hts := C.2.2.2.2.2.2.2.1
  have hKn := C.2.2.2.2.2.2.2.2.1.1.1 q _ (am_clat q hq)
  refine W.newcK C.1 C.2.1 C.2.2.2.2.2.1 (hts _ hw) (hts _ w1) (hts _ w2) rfl hdg (by omega) (by omega) hKn.2.1 h5.2.1 fun H1 kC hkC e1 z1 o1 => ?_
  have hz : H1.size = H.size + 1 := by rw [z1, h5.2.1]
  have ho : ∀ x : Nat, x < H.size → H1[x]? = H[x]? := fun x hx => o1 x (by rw [← h5.2.1]; exact hx)
  have hat : va_at (am_gD G) am_cl (am_gB G + am_n σ, am_E G (am_new σ) (am_ip (am_n σ))) H1 := by
    rw [am_E_o hk hq]
    refine ⟨_, am_clat q hq, (u_born (am_ty q) hts (am_la q hq) hKn hkC e1 (am_tyok q hq)).to (fun j hj => ?_)⟩
    have hj : j < am_fn q := hj
    rw [am_dfl q hq j hj]
    unfold vp_V
    rw [List.getD_eq_getElem?_getD, am_fs_at hj]
    unfold am_fv
    rw [am_new_I, am_new_L, am_new_R]
    generalize am_ft q j = z
    match z with
    | 0 => rfl
    | 1 => rfl
    | 2 => rfl
    | n + 3 => rfl
  have hn : am_n σ < am_old := h5.2.2.1
  have eA : am_v G (.ref (am_ip (am_n σ))) = .ref (am_gB G + am_n σ) := am_v_ip hn
  have go := hB G p l e R s m args below meth c H1 locs (cells + 1) (slots + am_fn q) Q ls C h1 h2 (by omega) (by omega) (am_Rp_n h5 (by omega) hz ho hat) (am_hc am_vk_ip (fun x hx => am_vk_new (h6 x hx))) (fun q hq => am_vk_new (h7 q hq)) (am_S_new h8 hz ho) h9 hr
  rw [List.map_cons, eA] at go
  exact go
theorem am_g_anewarray {q : Nat} (hok : am_okb P NM (P mi) (pc, .anewarray q, len, ix, wp) = true) (h : am_p1i st (fun x r => am_b (Nat.beq (am_kd (am_ip (am_n σ))) q) (Int32.ofNat (am_ln (am_ip (am_n σ))) = x ∧ 1 ≤ cb ∧ am_ln (am_ip (am_n σ)) ≤ sb ∧ am_T P d mi (pc + len) lv (.ref (am_ip (am_n σ)) :: r) (am_new σ) (cb - 1) (sb - am_ln (am_ip (am_n σ))) Post))) : am_T P d mi pc lv st σ cb sb Post := by
  obtain ⟨x, r, rfl, hA⟩ := am_p1i_e h
  obtain ⟨hk, rfl, hcb, hsb, hB⟩ := am_b_e hA
  clear h hA
  have hk := Nat.eq_of_beq_eq_true hk
  simp only [am_okb, Bool.and_eq_true, Bool.or_eq_true] at hok
  obtain ⟨⟨hle, hdg⟩, hw⟩ := hok
  have hle := Nat.eq_of_beq_eq_true hle
  subst hle
  have hdg := am_dc_e hdg
  intro G p l e R s m args below meth c H locs cells slots Q ls C h1 h2 h3 h4 h5 h6 h7 h8 h9 hr
  obtain ⟨i1, i2⟩ := am_ofNat_in (am_ln31 (am_ip (am_n σ)))
  have hts := C.2.2.2.2.2.2.2.1
  have hlt := am_ln_lt (am_ip (am_n σ))
  have hn : am_n σ < am_old := h5.2.2.1
  have eA : am_v G (.ref (am_ip (am_n σ))) = .ref (am_gB G + am_n σ) := am_v_ip hn
  have core : ∀ (C' : String) (cA : ClassId), (Cond.classLink (am_my (P mi)).cls ix C').before args s = true → va_AO C' s → s.vm.findClass ("[" ++ (FieldType.object C').toString) = some (am_gc G q) → (q = 16 ∨ q = 17) → W p l e R s m args below meth c H locs cells slots Q (F0 m pc ls (List.map (am_v G) (Value.int (Int32.ofNat (am_ln (am_ip (am_n σ)))) :: r))) := by
    intro C' _ hl hao hfc hq
    refine W.anew C.1 C.2.1 C.2.2.2.2.2.1 hl (va_AO.use hao) rfl hdg rfl i1 (by rw [i2]; omega) (by omega) (by rw [i2]; omega) fun cA kA comp f1 f2 f3 f4 => ?_
    rw [i2]
    have ec : cA = am_gc G q := Option.some.inj (f1.symm.trans hfc)
    subst ec
    generalize hH1 : H.push ({ cls := am_gc G q, slots := Array.replicate (am_ln (am_ip (am_n σ))) .null, vm := .none } : Cell) = H1
    have z1 : H1.size = H.size + 1 := by rw [← hH1, Array.size_push]
    have e1 : H1[H.size]? = some (arrV (am_gc G q) (am_ln (am_ip (am_n σ))) (fun _ => .null)) := by rw [← hH1, Array.getElem?_push_size, ← arrV_new]
    have o1 : ∀ x : Nat, x < H.size → H1[x]? = H[x]? := fun x hx => by rw [← hH1, Array.getElem?_push, if_neg (Nat.ne_of_lt hx)]
    have hat : va_at (am_gD G) am_cl (am_gB G + am_n σ, am_E G (am_new σ) (am_ip (am_n σ))) H1 := by
      rw [am_E_q (by omega), am_new_R, hk, ← h5.2.1]
      exact e1
    have go := hB G p l e R s m args below meth c H1 locs (cells + 1) (slots + am_ln (am_ip (am_n σ))) Q ls C h1 h2 (by omega) (by omega) (am_Rp_n h5 (by omega) z1 o1 hat) (am_hc am_vk_ip (fun x hx => am_vk_new (am_tl h6 x hx))) (fun q hq => am_vk_new (h7 q hq)) (am_S_new h8 z1 o1) h9 hr
    rw [List.map_cons, eA] at go
    rw [h5.2.1]
    exact go
  have hK := C.2.2.2.2.2.2.2.2.1
  rcases hw with ⟨hq, hw⟩ | ⟨hq, hw⟩
  · have hq := Nat.eq_of_beq_eq_true hq
    subst hq
    obtain ⟨_, _, _, _, _, hf⟩ := (hK.1.2 4 _ rfl).2
    exact core _ 0 (hts _ (am_wd_g hw rfl)) hK.2.2.1 hf (Or.inl rfl)
  · have hq := Nat.eq_of_beq_eq_true hq
    subst hq
    obtain ⟨_, _, _, _, _, hf⟩ := (hK.1.2 5 _ rfl).2
    exact core _ 0 (hts _ (am_wd_g hw rfl)) hK.2.2.2.1 hf (Or.inr rfl)
/-- a reference is put into an array -/
theorem am_ast {a b k c0 : Nat} {C' : String} {i : Int32} {r : List Value} (hdg : decode (am_mb (P mi)) pc = .ok (.aastore, 1)) (hk : am_kd a = k) (hk2 : k = 16 ∨ k = 17) (hb : am_kd b = c0) (hc0 : c0 < 12) (hcn : am_cn c0 = C') (hty : ∀ G : am_G, (am_tys G)[k - 12]? = some (am_gc G k, .object C')) (hin : vp_in i (am_ln a)) (hbo : b < am_old)
    (h : am_T P d mi (pc + 1) lv r (am_sR σ a (va_up (am_R σ a) i.toNatClampNeg (some b))) cb sb Post) : am_T P d mi pc lv (.ref b :: .int i :: .ref a :: r) σ cb sb Post := by
  intro G p l e R s m args below meth c H locs cells slots Q ls C h1 h2 h3 h4 h5 h6 h7 h8 h9 hr
  obtain ⟨ha, hlo⟩ := am_lo (am_hd (am_tl (am_tl h6))) hk (by omega)
  obtain ⟨hbn, -⟩ := am_lo (am_hd h6) hb (by omega)
  have hc := am_cell_q h5 ha (by omega)
  have eA : am_v G (.ref a) = .ref (am_ph G a) := by show Value.ref (am_ad G a) = _; rw [am_ad_lo hlo]
  have eB : am_v G (.ref b) = .ref (am_ph G b) := by show Value.ref (am_ad G b) = _; rw [am_ad_lo hbo]
  show W p l e R s m args below meth c H locs cells slots Q (F0 m pc ls (am_v G (.ref b) :: .int i :: am_v G (.ref a) :: r.map (am_v G)))
  rw [eA, eB]
  have hK := C.2.2.2.2.2.2.2.2.1
  obtain ⟨r', hr', cellV, g1, g2, g3, -⟩ := h5.1 _ _ (am_W_o hbn hb hc0)
  have hcls := (hK.1.1 c0 _ (am_clat c0 hc0)).2
  obtain ⟨kA, comp, k1, k2, k3, -⟩ := (hK.1.2 _ _ (hty G)).2
  have hcls' : ClassAt s C' (am_gD G |>.1 c0) := by rw [← hcn]; exact hcls
  have hcomp : comp = (am_gD G).1 c0 := Option.some.inj (k3.symm.trans hcls'.1)
  subst hcomp
  obtain ⟨kC, hkC, -⟩ := hcls'.2
  rw [hk] at hc
  refine W.aast C.1 C.2.1 hc (fun q h => by cases h) (fun h => by cases h) k1 k2 rfl hkC ⟨fun q => hin (Or.inl q), by rw [arrV_size]; exact am_in_lt hin⟩ g1 (fun q h => by rw [g3] at h; cases h) (by rw [g2]; exact hkC) (by rw [g2]; exact va_assign hcls') rfl rfl hdg fun H1 e1 z1 o1 => ?_
  refine h G p l e R s m args below meth c H1 _ cells slots Q ls C h1 h2 h3 h4 (am_Rp_r h5 ha hbn z1 o1 ?_) (am_tl (am_tl (am_tl h6))) h7 (h8.put z1 o1 (Nat.le_add_right _ _)) h9 hr
  have eR : am_R (am_sR σ a (va_up (am_R σ a) i.toNatClampNeg (some b))) a = va_up (am_R σ a) i.toNatClampNeg (some b) := if_pos rfl
  rw [am_E_q (by omega), eR, hk]
  show H1[_]? = some (vp_cell _ _)
  rw [e1, vp_cell_q, arrV_store]
  congr 2
  funext q
  by_cases hq : q = i.toNatClampNeg
  · subst hq
    simp [updV, va_up, va_rf]
  · simp [updV, va_up, hq]
theorem am_g_aastore (hok : am_okb P NM (P mi) (pc, .aastore, len, ix, wp) = true) (h : am_pr st (fun b r => am_pa r (fun a i r => am_b (Nat.blt b am_old) (match am_kd a with
    | 16 => am_b (Nat.beq (am_kd b) 2) (vp_in i (am_ln a) ∧ am_T P d mi (pc + len) lv r (am_sR σ a (va_up (am_R σ a) i.toNatClampNeg (some b))) cb sb Post)
    | 17 => am_b (Nat.beq (am_kd b) 7) (vp_in i (am_ln a) ∧ am_T P d mi (pc + len) lv r (am_sR σ a (va_up (am_R σ a) i.toNatClampNeg (some b))) cb sb Post)
    | _ => False)))) : am_T P d mi pc lv st σ cb sb Post := by
  obtain ⟨b, r', rfl, hA⟩ := am_pr_e h
  obtain ⟨a, i, r, rfl, hA'⟩ := am_pa_e hA
  obtain ⟨hbo, hB⟩ := am_b_e hA'
  clear h hA hA'
  have hbo : b < am_old := Nat.le_of_ble_eq_true hbo
  obtain ⟨hdg, rfl⟩ := am_dl hok
  split at hB
  · rename_i hk
    obtain ⟨hkb, hin, hB⟩ := am_b_e hB
    exact am_ast (C' := "SpentTurns$Numbers") hdg hk (Or.inl rfl) (Nat.eq_of_beq_eq_true hkb) (by decide) rfl (fun G => rfl) hin hbo hB
  · rename_i hk
    obtain ⟨hkb, hin, hB⟩ := am_b_e hB
    exact am_ast (C' := "SpentTurns$Town") hdg hk (Or.inr rfl) (Nat.eq_of_beq_eq_true hkb) (by decide) rfl (fun G => rfl) hin hbo hB
  · exact hB.elim
theorem am_g_ifnonnull {off : Int} (hok : am_okb P NM (P mi) (pc, .ifnonnull off, len, ix, wp) = true) (h : am_pv st (fun v r => match v with
    | .ref _ => am_T P d mi (am_j pc off) lv r σ cb sb Post
    | .null => am_T P d mi (pc + len) lv r σ cb sb Post
    | _ => False)) : am_T P d mi pc lv st σ cb sb Post := by
  obtain ⟨v, r, rfl, hB⟩ := am_pv_e h
  clear h
  simp only [am_okb, Bool.and_eq_true] at hok
  obtain ⟨⟨hdg, hle⟩, hj⟩ := hok
  have hdg := am_dc_e hdg
  have hj := am_jmp hj
  have hle := Nat.eq_of_beq_eq_true hle
  subst hle
  intro G p l e R s m args below meth c H locs cells slots Q ls C h1 h2 h3 h4 h5 h6 h7 h8 h9 hr
  split at hB
  · exact lv_ifnonnull C.1 C.2.1 hdg hj (hB G p l e R s m args below meth c H locs cells slots Q ls C h1 h2 h3 h4 h5 (am_tl h6) h7 h8 h9 hr)
  · exact lv_ifnonnullN C.1 C.2.1 hdg (hB G p l e R s m args below meth c H locs cells slots Q ls C h1 h2 h3 h4 h5 (am_tl h6) h7 h8 h9 hr)
  · exact hB.elim
theorem am_swl_e {x : Int32} {K : Int → Prop} : ∀ (l : List Int) (lo : Int), am_swl x lo l K → ∀ (i : Nat) (off : Int), l[i]? = some off → x.toInt = lo + (i : Int) → K off
  | [], _, _, i, off, h, _ => by simp at h
  | t :: l, lo, hs, i, off, h, hx => by
    cases i with
    | zero =>
      simp at h
      subst h
      exact hs.1 (by simpa using hx)
    | succ i =>
      rw [List.getElem?_cons_succ] at h
      exact am_swl_e l (lo + 1) hs.2 i off h (by rw [hx]; omega)
theorem am_lkl_e {x : Int32} {D : Int} {K : Int → Prop} : ∀ (l : List (Int × Int)), am_lkl x l D K → K (Op.lookupswitch.offset l D x.toInt)
  | [], h => h
  | t :: l, h => by
    rw [show t = (t.1, t.2) from rfl, Op.lookupswitch.offset_cons]
    by_cases hx : x.toInt = t.1
    · rw [if_pos hx.symm]
      exact h.1 hx
    · rw [if_neg (fun q => hx q.symm)]
      exact am_lkl_e l (h.2 hx)
theorem am_g_tableswitch {dflt lo hi : Int} {offs : Array Int} (hok : am_okb P NM (P mi) (pc, .tableswitch dflt lo hi offs, len, ix, wp) = true) (h : am_p1i st (fun x r => (x.toInt < lo ∨ hi < x.toInt → am_T P d mi (am_j pc dflt) lv r σ cb sb Post) ∧ am_swl x lo offs.toList (fun off => am_T P d mi (am_j pc off) lv r σ cb sb Post))) : am_T P d mi pc lv st σ cb sb Post := by
  obtain ⟨x, r, rfl, hA, hB⟩ := am_p1i_e h
  clear h
  simp only [am_okb, Bool.and_eq_true] at hok
  obtain ⟨⟨⟨hdg, hj⟩, hjs⟩, hl⟩ := hok
  have hdg := am_dc_e hdg
  have hl : (offs.toList.length : Int) = hi - lo + 1 := of_decide_eq_true hl
  intro G p l e R s m args below meth c H locs cells slots Q ls C h1 h2 h3 h4 h5 h6 h7 h8 h9 hr
  by_cases hout : x.toInt < lo ∨ hi < x.toInt
  · exact lv_tableOut C.1 C.2.1 hdg hout (am_jmp hj) (hA hout G p l e R s m args below meth c H locs cells slots Q ls C h1 h2 h3 h4 h5 (am_tl h6) h7 h8 h9 hr)
  · have n1 : ¬ x.toInt < lo := fun q => hout (Or.inl q)
    have n2 : ¬ hi < x.toInt := fun q => hout (Or.inr q)
    have hlt : (x.toInt - lo).toNat < offs.toList.length := by omega
    obtain ⟨off, ho⟩ : ∃ off, offs.toList[(x.toInt - lo).toNat]? = some off := ⟨_, List.getElem?_eq_getElem hlt⟩
    have hjo : decide (0 ≤ (pc : Int) + off) = true := List.all_eq_true.mp hjs off (List.mem_of_getElem? ho)
    exact lv_tableIn C.1 C.2.1 hdg n1 n2 (by rw [← Array.getElem?_toList]; exact ho) (am_jmp hjo) (am_swl_e _ _ hB _ off ho (by omega) G p l e R s m args below meth c H locs cells slots Q ls C h1 h2 h3 h4 h5 (am_tl h6) h7 h8 h9 hr)
theorem am_g_lookupswitch {dflt : Int} {ps : Array (Int × Int)} (hok : am_okb P NM (P mi) (pc, .lookupswitch dflt ps, len, ix, wp) = true) (h : am_p1i st (fun x r => am_lkl x ps.toList dflt (fun off => am_T P d mi (am_j pc off) lv r σ cb sb Post))) : am_T P d mi pc lv st σ cb sb Post := by
  obtain ⟨x, r, rfl, hB⟩ := am_p1i_e h
  clear h
  simp only [am_okb, Bool.and_eq_true] at hok
  obtain ⟨⟨⟨hdg, hj⟩, hjs⟩, hp⟩ := hok
  have hdg := am_dc_e hdg
  intro G p l e R s m args below meth c H locs cells slots Q ls C h1 h2 h3 h4 h5 h6 h7 h8 h9 hr
  have go := am_lkl_e _ hB
  have hjo : decide (0 ≤ (pc : Int) + Op.lookupswitch.offset ps.toList dflt x.toInt) = true := by
    have key : ∀ l : List (Int × Int), (l.all fun o => decide (0 ≤ (pc : Int) + o.2)) = true → decide (0 ≤ (pc : Int) + Op.lookupswitch.offset l dflt x.toInt) = true := by
      intro l
      induction l with
      | nil => intro _; exact hj
      | cons t l ih =>
        intro ha
        rw [List.all_cons, Bool.and_eq_true] at ha
        rw [show t = (t.1, t.2) from rfl, Op.lookupswitch.offset_cons]
        split
        · exact ha.1
        · exact ih ha.2
    exact key _ hjs
  exact lv_lookup C.1 C.2.1 hdg hp rfl (am_jmp hjo) (go G p l e R s m args below meth c H locs cells slots Q ls C h1 h2 h3 h4 h5 (am_tl h6) h7 h8 h9 hr)
theorem am_g_return_ (hok : am_okb P NM (P mi) (pc, .return_, len, ix, wp) = true) (h : am_b (Nat.beq st.length 0) (am_mr (P mi) = none ∧ Post none σ)) : am_T P d mi pc lv st σ cb sb Post := by
  obtain ⟨hl, hm, hB⟩ := am_b_e h
  have hl : st = [] := List.length_eq_zero_iff.mp (Nat.eq_of_beq_eq_true hl)
  subst hl
  obtain ⟨hdg, rfl⟩ := am_dl hok
  intro G p l e R s m args below meth c H locs cells slots Q ls C h1 h2 h3 h4 h5 h6 h7 h8 h9 hr
  exact hr none σ pc ls H locs cells slots hB h5 (fun x hx => by cases hx) h8 (by omega) (by omega) ⟨hm, hdg⟩
theorem am_g_ireturn (hok : am_okb P NM (P mi) (pc, .ireturn, len, ix, wp) = true) {x : Int32} (h : (∃ ty, am_mr (P mi) = some ty ∧ narrow ty (.int x) = .int x) ∧ Post (some (.int x)) σ) : am_T P d mi pc lv [.int x] σ cb sb Post := by
  obtain ⟨hdg, rfl⟩ := am_dl hok
  intro G p l e R s m args below meth c H locs cells slots Q ls C h1 h2 h3 h4 h5 h6 h7 h8 h9 hr
  exact hr (some (.int x)) σ pc ls H locs cells slots h.2 h5 (fun y hy => by cases hy; trivial) h8 (by omega) (by omega) ⟨h.1, hdg⟩
theorem am_g_lreturn (hok : am_okb P NM (P mi) (pc, .lreturn, len, ix, wp) = true) {x : Int64} (h : am_mr (P mi) = some .long ∧ Post (some (.long x)) σ) : am_T P d mi pc lv [.long x] σ cb sb Post := by
  obtain ⟨hdg, rfl⟩ := am_dl hok
  intro G p l e R s m args below meth c H locs cells slots Q ls C h1 h2 h3 h4 h5 h6 h7 h8 h9 hr
  exact hr (some (.long x)) σ pc ls H locs cells slots h.2 h5 (fun y hy => by cases hy; trivial) h8 (by omega) (by omega) ⟨h.1, hdg⟩
theorem am_cs_m (G : am_G) (r : List Value) : ((r.map (am_v G)).map fun v => v.category).sum = am_cs r := by
  unfold am_cs
  rw [List.map_map]
  congr 1
  apply List.map_congr_left
  intro v _
  exact am_v_cat G v
theorem am_g_monitorenter (hok : am_okb P NM (P mi) (pc, .monitorenter, len, ix, wp) = true) (h : am_pr st (fun _ r => am_b (Nat.ble 1 d && Nat.ble (am_cs r) 8) (am_T P d mi (pc + len) lv r σ cb sb Post))) : am_T P d mi pc lv st σ cb sb Post := by
  obtain ⟨a, r, rfl, hA⟩ := am_pr_e h
  obtain ⟨hd, hB⟩ := am_b_e hA
  clear h hA
  rw [Bool.and_eq_true] at hd
  have hd1 : 1 ≤ d := Nat.le_of_ble_eq_true hd.1
  have hcs : am_cs r ≤ 8 := Nat.le_of_ble_eq_true hd.2
  simp only [am_okb, Bool.and_eq_true] at hok
  obtain ⟨⟨hle, hdg⟩, hw⟩ := hok
  have hle := Nat.eq_of_beq_eq_true hle
  subst hle
  have hdg := am_dc_e hdg
  have hw := am_wd_g hw rfl
  intro G p l e R s m args below meth c H locs cells slots Q ls C h1 h2 h3 h4 h5 h6 h7 h8 h9 hr
  have hts := C.2.2.2.2.2.2.2.1
  refine W.objInit C.1 C.2.1 C.2.2.2.2.2.1 (hts _ hw) (hts _ am_obw.1) (hts _ am_obw.2.1) rfl (h9.1.trans C.2.2.1.symm) rfl hdg (by omega) ?_ (hB G p l e R s m args below meth c H locs cells slots Q ls C h1 h2 h3 h4 h5 (am_tl h6) h7 h8 h9 hr)
  have := lv_room (m := m) (pc := pc) (ls := ls) (rest := []) (st := r.map (am_v G)) (by rw [am_cs_m]; exact hcs)
  exact Nat.le_trans (Nat.add_le_add_right this 12) (by omega)
end AMR
