/-! new objects and arrays, constants of the pool, switches, returns, Object.<init>, arraycopy -/
theorem am_RA {G : am_G} {U : State} (h : am_Kx G U) : U.vm.findClass ("[" ++ (FieldType.byte).toString) = some (am_gc G 12) ∧ U.vm.findClass ("[" ++ (FieldType.int).toString) = some (am_gc G 13) ∧ U.vm.findClass ("[" ++ (FieldType.long).toString) = some (am_gc G 14) ∧ U.vm.findClass ("[" ++ (FieldType.boolean).toString) = some (am_gc G 15) :=
  ⟨(h.1.2 0 _ rfl).2, (h.1.2 1 _ rfl).2, (h.1.2 2 _ rfl).2, (h.1.2 3 _ rfl).2⟩
theorem am_new_I (σ : am_S) : am_I (am_new σ) (am_ip (am_n σ)) = fun _ => 0 := if_pos rfl
theorem am_new_L (σ : am_S) : am_L (am_new σ) (am_ip (am_n σ)) = fun _ => 0 := if_pos rfl
theorem am_new_R (σ : am_S) : am_R (am_new σ) (am_ip (am_n σ)) = fun _ => none := if_pos rfl
theorem am_ln31 (a : Nat) : am_ln a < 2 ^ 31 := Nat.lt_of_lt_of_le (am_ln_lt a) (Nat.le_of_ble_eq_true rfl)
theorem am_dfl : ∀ c, c < 12 → ∀ k, k < am_fn c → defaultValue (am_ty c k) = (match am_ft c k with
    | 1 => Value.long 0
    | 2 => .null
    | _ => .int 0) := by decide +kernel
theorem am_arw : Cond.arrayClass .byte ∈ am_wg ∧ Cond.arrayClass .int ∈ am_wg ∧ Cond.arrayClass .long ∈ am_wg ∧ Cond.arrayClass .boolean ∈ am_wg := by
  refine ⟨?_, ?_, ?_, ?_⟩ <;> exact List.mem_filter.mpr ⟨by decide +kernel, rfl⟩
theorem am_insw : ∀ c, c < 12 → Cond.instantiable (am_cn c) (am_fn c) ∈ am_wg ∧ Cond.initialized (am_cn c) ∈ am_wg := by decide +kernel
theorem am_obw : Cond.instanceMethod objectInit ∈ am_wg ∧ Cond.code objectInit ⟨#[0xb1]⟩ 1 none ∈ am_wg ∧ Cond.native arraycopyName ∈ am_wg ∧ Cond.static arraycopyName ∈ am_wg ∧ Cond.initialized "java/lang/System" ∈ am_wg := by decide +kernel
theorem am_kd_98 (a : Nat) : am_kd a ≠ 98 := by
  rcases Nat.lt_or_ge a 133 with h | h
  · have : ∀ i, i < 133 → am_kd i ≠ 98 := by decide +kernel
    exact this a h
  · unfold am_kd
    rw [List.getD_eq_getElem?_getD, List.getElem?_eq_none (show am_sh.length ≤ a from h)]
    decide
section AMQ
variable {P : Nat → am_MI} {NM d mi pc len ix wp cb sb : Nat} {lv : am_LV} {st : List Value} {σ : am_S} {Post : Option Value → am_S → Prop}

theorem am_g_jsr {n : Int} (hok : am_okb P NM (P mi) (pc, .jsr n, len, ix, wp) = true) (h : am_T P d mi (pc + len) lv (.int (Int32.ofInt n) :: st) σ cb sb Post) : am_T P d mi pc lv st σ cb sb Post := by
  simp only [am_okb, Bool.and_eq_true, Bool.or_eq_true] at hok
  obtain ⟨hq, hw⟩ := hok
  have hw := am_wd_g hw rfl
  intro G p l e R s m args below meth c H locs cells slots Q ls C h1 h2 h3 h4 h5 h6 h7 h8 h9 hr
  have go := h G p l e R s m args below meth c H locs cells slots Q ls C h1 h2 h3 h4 h5 (am_hc trivial h6) h7 h8 h9 hr
  rcases hq with ⟨hle, hdg⟩ | ⟨hle, hdg⟩
  · have hle := Nat.eq_of_beq_eq_true hle
    subst hle
    exact lv_ldc C.1 C.2.1 C.2.2.2.2.2.1 (C.2.2.2.2.2.2.2.1 _ hw) (am_dc_e hdg) go
  · have hle := Nat.eq_of_beq_eq_true hle
    subst hle
    exact lv_ldcw C.1 C.2.1 C.2.2.2.2.2.1 (C.2.2.2.2.2.2.2.1 _ hw) (am_dc_e hdg) go
theorem am_g_ldc2_w {n : Nat} (hok : am_okb P NM (P mi) (pc, .ldc2_w n, len, ix, wp) = true) (h : am_T P d mi (pc + len) lv (.long (Int64.ofNat n) :: st) σ cb sb Post) : am_T P d mi pc lv st σ cb sb Post := by
  simp only [am_okb, Bool.and_eq_true] at hok
  obtain ⟨⟨hle, hdg⟩, hw⟩ := hok
  have hw := am_wd_g hw rfl
  have hle := Nat.eq_of_beq_eq_true hle
  subst hle
  intro G p l e R s m args below meth c H locs cells slots Q ls C h1 h2 h3 h4 h5 h6 h7 h8 h9 hr
  exact lv_ldc2 C.1 C.2.1 C.2.2.2.2.2.1 (C.2.2.2.2.2.2.2.1 _ hw) (am_dc_e hdg) (h G p l e R s m args below meth c H locs cells slots Q ls C h1 h2 h3 h4 h5 (am_hc trivial h6) h7 h8 h9 hr)
theorem am_g_arraylength (hok : am_okb P NM (P mi) (pc, .arraylength, len, ix, wp) = true) (h : am_pr st (fun a r => match Nat.beq a am_old with
    | true => ∃ L, am_R σ am_old 0 = some L ∧ am_T P d mi (pc + len) lv (.int (Int32.ofNat L) :: r) σ cb sb Post
    | false => am_b (Nat.ble 12 (am_kd a) && Nat.blt (am_kd a) 16) (am_T P d mi (pc + len) lv (.int (Int32.ofNat (am_ln a)) :: r) σ cb sb Post))) : am_T P d mi pc lv st σ cb sb Post := by
  obtain ⟨a, r, rfl, hB⟩ := am_pr_e h
  clear h
  obtain ⟨hdg, rfl⟩ := am_dl hok
  intro G p l e R s m args below meth c H locs cells slots Q ls C h1 h2 h3 h4 h5 h6 h7 h8 h9 hr
  split at hB
  · rename_i hb
    have hb := Nat.eq_of_beq_eq_true hb
    subst hb
    obtain ⟨L, hL, hB⟩ := hB
    have eL : L = am_gL G := Option.some.inj (hL.symm.trans h5.2.2.2.2.2)
    subst eL
    obtain ⟨hX, hBo, -⟩ := C.2.2.2.2.2.2.2.2.2.1
    refine va_slen (b := am_ga G 0) C.1 C.2.1 hX (Nat.lt_of_lt_of_le hBo C.2.2.2.2.2.2.2.2.2.2) (Nat.not_le.mpr hBo) h8 hdg ?_
    exact hB G p l e R s m args below meth c H locs cells slots Q ls C h1 h2 h3 h4 h5 (am_hc trivial (am_tl h6)) h7 h8 h9 hr
  · obtain ⟨hk, hB⟩ := am_b_e hB
    rw [Bool.and_eq_true] at hk
    have k1 : 12 ≤ am_kd a := Nat.le_of_ble_eq_true hk.1
    have k2 : am_kd a < 16 := Nat.le_of_ble_eq_true hk.2
    obtain ⟨ha, hlo⟩ := am_lo (am_hd h6) rfl (by omega)
    have eA : am_v G (.ref a) = .ref (am_ph G a) := by show Value.ref (am_ad G a) = _; rw [am_ad_lo hlo]
    show W p l e R s m args below meth c H locs cells slots Q (F0 m pc ls (am_v G (.ref a) :: r.map (am_v G)))
    rw [eA]
    have go := hB G p l e R s m args below meth c H locs cells slots Q ls C h1 h2 h3 h4 h5 (am_hc trivial (am_tl h6)) h7 h8 h9 hr
    have ar := am_arr C.2.2.2.2.2.2.2.2.1
    by_cases k14 : am_kd a = 14
    · have hc := am_cell_l h5 ha k14
      exact W.alen (n := Int32.ofNat (am_ln a)) C.1 C.2.1 hc (ar.2.2.1 _ _) (by rw [arrV_size]) rfl rfl hdg go
    · have hc := am_cell_i h5 ha (by omega)
      rcases (show am_kd a = 12 ∨ am_kd a = 13 ∨ am_kd a = 15 by omega) with hk | hk | hk
      · rw [hk] at hc
        exact W.alen (n := Int32.ofNat (am_ln a)) C.1 C.2.1 hc (ar.1 _ _) (by rw [arrV_size]) rfl rfl hdg go
      · rw [hk] at hc
        exact W.alen (n := Int32.ofNat (am_ln a)) C.1 C.2.1 hc (ar.2.1 _ _) (by rw [arrV_size]) rfl rfl hdg go
      · rw [hk] at hc
        exact W.alen (n := Int32.ofNat (am_ln a)) C.1 C.2.1 hc (ar.2.2.2.1 _ _) (by rw [arrV_size]) rfl rfl hdg go
/-- an array of numbers is made -/
theorem am_g_newarray' {t : ArrayType} {kd : Nat} {ty : FieldType} (hty : newarray.typeOf t = ty) (hk : am_kd (am_ip (am_n σ)) = kd) (hkd : (kd = 12 ∧ ty = .byte) ∨ (kd = 13 ∧ ty = .int) ∨ (kd = 14 ∧ ty = .long) ∨ (kd = 15 ∧ ty = .boolean)) {r : List Value} (hdg : decode (am_mb (P mi)) pc = .ok (.newarray t, 2)) (hcb : 1 ≤ cb) (hsb : am_ln (am_ip (am_n σ)) ≤ sb)
    (h : am_T P d mi (pc + 2) lv (.ref (am_ip (am_n σ)) :: r) (am_new σ) (cb - 1) (sb - am_ln (am_ip (am_n σ))) Post) : am_T P d mi pc lv (.int (Int32.ofNat (am_ln (am_ip (am_n σ)))) :: r) σ cb sb Post := by
  subst hty
  intro G p l e R s m args below meth c H locs cells slots Q ls C h1 h2 h3 h4 h5 h6 h7 h8 h9 hr
  obtain ⟨i1, i2⟩ := am_ofNat_in (am_ln31 (am_ip (am_n σ)))
  have hwa : Cond.arrayClass (newarray.typeOf t) ∈ am_wg := by
    rcases hkd with ⟨-, q⟩ | ⟨-, q⟩ | ⟨-, q⟩ | ⟨-, q⟩ <;> rw [q]
    · exact am_arw.1
    · exact am_arw.2.1
    · exact am_arw.2.2.1
    · exact am_arw.2.2.2
  have hby : am_ln (am_ip (am_n σ)) * componentBytes (newarray.typeOf t) ≤ 536870912 := by
    have := am_ln_lt (am_ip (am_n σ))
    have hb : componentBytes (newarray.typeOf t) ≤ 8 := by rcases hkd with ⟨-, q⟩ | ⟨-, q⟩ | ⟨-, q⟩ | ⟨-, q⟩ <;> rw [q] <;> decide
    exact Nat.le_trans (Nat.mul_le_mul (Nat.le_of_lt this) hb) (by decide)
  refine va_newaK C.1 C.2.1 (C.2.2.2.2.2.2.2.1 _ hwa) rfl hdg rfl i1 i2 hby (by omega) (by omega) h5.2.1 fun H1 cA e1 z1 o1 hAr hNm => ?_
  have hz : H1.size = H.size + 1 := by rw [z1, h5.2.1]
  have ho : ∀ q : Nat, q < H.size → H1[q]? = H[q]? := fun q hq => o1 q (by rw [← h5.2.1]; exact hq)
  have ra := am_RA C.2.2.2.2.2.2.2.2.1
  have hat : va_at (am_gD G) am_cl (am_gB G + am_n σ, am_E G (am_new σ) (am_ip (am_n σ))) H1 := by
    rcases hkd with ⟨k1, q⟩ | ⟨k1, q⟩ | ⟨k1, q⟩ | ⟨k1, q⟩ <;> rw [q] at hNm e1
    · rw [am_E_i (by omega), hk, k1, am_new_I, ← Option.some.inj (hNm.symm.trans ra.1)]
      exact e1
    · rw [am_E_i (by omega), hk, k1, am_new_I, ← Option.some.inj (hNm.symm.trans ra.2.1)]
      exact e1
    · rw [am_E_l (by omega), am_new_L, ← Option.some.inj (hNm.symm.trans ra.2.2.1)]
      exact e1
    · rw [am_E_i (by omega), hk, k1, am_new_I, ← Option.some.inj (hNm.symm.trans ra.2.2.2)]
      exact e1
  have hn : am_n σ < am_old := h5.2.2.1
  have eA : am_v G (.ref (am_ip (am_n σ))) = .ref (am_gB G + am_n σ) := am_v_ip hn
  have go := h G p l e R s m args below meth c H1 locs (cells + 1) (slots + am_ln (am_ip (am_n σ))) Q ls C h1 h2 (by omega) (by omega) (am_Rp_n h5 (by omega) hz ho hat) (am_hc am_vk_ip (fun x hx => am_vk_new (am_tl h6 x hx))) (fun q hq => am_vk_new (h7 q hq)) (am_S_new h8 hz ho) h9 hr
  rw [List.map_cons, eA] at go
  exact go
theorem am_g_newarray {t : ArrayType} (hok : am_okb P NM (P mi) (pc, .newarray t, len, ix, wp) = true) (h : am_p1i st (fun x r => am_b (Nat.beq (am_kd (am_ip (am_n σ))) (am_ak t)) (Int32.ofNat (am_ln (am_ip (am_n σ))) = x ∧ 1 ≤ cb ∧ am_ln (am_ip (am_n σ)) ≤ sb ∧ am_T P d mi (pc + len) lv (.ref (am_ip (am_n σ)) :: r) (am_new σ) (cb - 1) (sb - am_ln (am_ip (am_n σ))) Post))) : am_T P d mi pc lv st σ cb sb Post := by
  obtain ⟨x, r, rfl, hA⟩ := am_p1i_e h
  obtain ⟨hk, rfl, hcb, hsb, hB⟩ := am_b_e hA
  clear h hA
  have hk := Nat.eq_of_beq_eq_true hk
  obtain ⟨hdg, rfl⟩ := am_dl hok
  cases t
  · exact am_g_newarray' (t := .boolean) (ty := .boolean) rfl hk (by simp [am_ak]) hdg hcb hsb hB
  · exact absurd hk (am_kd_98 _)
  · exact absurd hk (am_kd_98 _)
  · exact absurd hk (am_kd_98 _)
  · exact am_g_newarray' (t := .byte) (ty := .byte) rfl hk (by simp [am_ak]) hdg hcb hsb hB
  · exact absurd hk (am_kd_98 _)
  · exact am_g_newarray' (t := .int) (ty := .int) rfl hk (by simp [am_ak]) hdg hcb hsb hB
  · exact am_g_newarray' (t := .long) (ty := .long) rfl hk (by simp [am_ak]) hdg hcb hsb hB
end AMQ
