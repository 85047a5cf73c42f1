/-! System.arraycopy, and calls -/
theorem am_nn (z : Int32) (hz : ¬ z < 0) : z.toInt = (z.toNatClampNeg : Int) := by
  have hz0 : (0 : Int) ≤ z.toInt := by
    have := Int32.not_lt.mp hz
    simpa using Int32.le_iff_toInt_le.mp this
  show z.toInt = ((z.toInt.toNat : Nat) : Int)
  omega
section AMY
variable {p : Program} {l : Launch} {e : Env} {R : Room} {s : State} {m : MethodId} {args : Array Value} {below : List Frame} {meth : Method} {c : Code} {H : Heap} {locs : List Loc} {cells slots : Nat} {Q : State → Prop} {pc : Nat} {ls : Array Slot} {rest : List Value}
theorem am_Wcopy {M : am_MI} {G : am_G} (C : am_Cx M G p s m args meth c) (hls : ls.size = am_ml M) {ix : Nat} (hlink : Cond.methodLink (am_my M).cls ix arraycopyName ∈ am_wg) {a0 a n0 n1 : Nat} {c0 : ClassId} {f g : Nat → Value} {ty : FieldType} (hc0 : H[a0]? = some (arrV c0 n0 f)) (hc1 : H[a]? = some (arrV c0 n1 g)) (hA : ArrOfT s c0 ty) (hprim : refKind ty = false)
    {sp dp n : Int32} (h1 : ¬ sp < 0) (h2 : ¬ dp < 0) (h3 : ¬ n < 0) (h4 : sp.toNatClampNeg + n.toNatClampNeg ≤ n0) (h5 : dp.toNatClampNeg + n.toNatClampNeg ≤ n1) (hfit : ∀ i, i < n.toNatClampNeg → fits ty (f (sp.toNatClampNeg + i)) = true ∧ ∀ q, f (sp.toNatClampNeg + i) ≠ .ref q)
    (hframes : 1 ≤ R.frames) (hlocals : (rest.map fun v => v.category).sum + (nativeFrameWords "java/lang/System" "arraycopy" 5 + 11) ≤ R.locals) (hdg : decode (am_mb M) pc = .ok (.invokestatic ix, 3))
    (kk : ∀ (H1 : Heap) (L : List Loc), (∀ q ∈ L, q.base = a) → H1.size = H.size → (∀ q : Nat, q ≠ a → H1[q]? = H[q]?) → H1[a]? = some (arrV c0 n1 (va_cpy f g sp.toNatClampNeg dp.toNatClampNeg n.toNatClampNeg)) → W p l e R s m args below meth c H1 (locs ++ L) cells slots Q (F0 m (pc + 3) ls rest)) :
    W p l e R s m args below meth c H locs cells slots Q (F0 m pc ls (.int n :: .int dp :: .ref a :: .int sp :: .ref a0 :: rest)) := by
  obtain ⟨hx, hb, hml, -, -, hown, -, hts, -⟩ := C
  intro T hT X
  obtain ⟨-, k0, hk0, cm0, hkk0⟩ := hA n0 f
  obtain ⟨-, k1, hk1, cm1, hkk1⟩ := hA n1 g
  obtain ⟨vm', X', step⟩ := X.arraycopy hx hown (hts _ hlink) (hts _ am_obw.2.2.1) (hts _ am_obw.2.2.2.1) (hts _ am_obw.2.2.2.2) (src := a0) (dst := a) (cs := arrV c0 n0 f) (cd := arrV c0 n1 g) (srcPos := sp) (destPos := dp) (n := n) (by rw [hT]; exact hc0) (by rw [hT]; exact hc1)
    (fun _ h => by cases h) (fun _ h => by cases h) (fun h => by cases h) (fun h => by cases h) hk0 hk1 hkk0 hkk1 (by simp [hprim]) h1 h2 h3
    (by rw [am_nn sp h1, am_nn n h3, arrV_size]; omega)
    (by rw [am_nn dp h2, am_nn n h3, arrV_size]; omega)
    (fun vm₁ _ i hi => by
      have e : (arrV c0 n0 f).slots.getD (sp.toNatClampNeg + i) .null = f (sp.toNatClampNeg + i) := by
        rw [Array.getD_eq_getD_getElem?, arrV_read _ _ (by omega)]
        rfl
      rw [e]
      obtain ⟨q1, q2⟩ := hfit i hi
      refine ⟨q1, ?_⟩
      cases hv : f (sp.toNatClampNeg + i) with
      | ref q => exact absurd hv (q2 q)
      | _ => trivial)
    (g := F0 m pc ls (.int n :: .int dp :: .ref a :: .int sp :: .ref a0 :: rest)) rfl (by rw [hml, ← hls]) (rest := rest) rfl (by rw [hb]; exact hdg) hframes (by show 2 * 0 + _ + _ ≤ _; omega)
  have e1 : copied (arrV c0 n0 f) (arrV c0 n1 g) sp dp n = arrV c0 n1 (va_cpy f g sp.toNatClampNeg dp.toNatClampNeg n.toNatClampNeg) := va_copied (fun z => z) c0 c0 f g h4
  rw [e1] at X' step
  have hl : a < H.size := (Array.getElem?_eq_some_iff.mp hc1).1
  obtain ⟨t, a1, b1⟩ := kk (H.setIfInBounds a (arrV c0 n1 (va_cpy f g sp.toNatClampNeg dp.toNatClampNeg n.toNatClampNeg))) _ (fun q hq => by
      obtain ⟨z, -, hz⟩ := List.mem_map.mp hq
      rw [← hz]) (by simp) (fun q hq => by simp [Array.getElem?_setIfInBounds, Ne.symm hq]) (by simp [Array.getElem?_setIfInBounds, hl]) _ (by rw [← hT]; rfl) X'
  exact ⟨t, step t a1, b1⟩
end AMY
section AMZ
variable {P : Nat → am_MI} {NM d mi pc len ix wp cb sb : Nat} {lv : am_LV} {st : List Value} {σ : am_S} {Post : Option Value → am_S → Prop}
theorem am_S_app {G : am_G} {H0 H H1 : Heap} {locs L : List Loc} {a : Nat} (h : va_S (am_A G) H0 H locs) (hL : ∀ q ∈ L, q.base = am_ph G a) (z : H1.size = H.size) (oq : ∀ q : Nat, q ≠ am_ph G a → H1[q]? = H[q]?) : va_S (am_A G) H0 H1 (locs ++ L) := by
  refine ⟨by rw [z]; exact h.1, fun q h1 h2 => ?_, fun q hq => ?_⟩
  · rw [oq q (fun e => h2 (by rw [e]; exact Nat.le_add_right _ _))]
    exact h.2.1 q h1 h2
  · rcases List.mem_append.mp hq with h1 | h1
    · exact h.2.2 q h1
    · rw [hL q h1]
      exact Nat.le_add_right _ _
theorem am_nfw : nativeFrameWords "java/lang/System" "arraycopy" 5 + 11 ≤ 100 := by decide +kernel
theorem am_g_monitorexit (hok : am_okb P NM (P mi) (pc, .monitorexit, len, ix, wp) = true) {n dp sp : Int32} {a b : Nat} {r : List Value} (h : am_b (Nat.ble 1 d && Nat.ble (am_cs r) 8) (am_b (Nat.beq (am_kd a) (am_kd b)) (¬ sp < 0 ∧ ¬ dp < 0 ∧ ¬ n < 0 ∧ sp.toNatClampNeg + n.toNatClampNeg ≤ am_ln a ∧ dp.toNatClampNeg + n.toNatClampNeg ≤ am_ln b ∧ (match am_kd a with
      | 13 => am_T P d mi (pc + len) lv r (am_sI σ b (va_cpy (am_I σ a) (am_I σ b) sp.toNatClampNeg dp.toNatClampNeg n.toNatClampNeg)) cb sb Post
      | 14 => am_T P d mi (pc + len) lv r (am_sL σ b (va_cpy (am_L σ a) (am_L σ b) sp.toNatClampNeg dp.toNatClampNeg n.toNatClampNeg)) cb sb Post
      | _ => False)))) : am_T P d mi pc lv (.int n :: .int dp :: .ref b :: .int sp :: .ref a :: r) σ cb sb Post := by
  obtain ⟨hd, hA⟩ := am_b_e h
  obtain ⟨hkk, c1, c2, c3, c4, c5, hB⟩ := am_b_e hA
  clear h hA
  have hkk := Nat.eq_of_beq_eq_true hkk
  rw [Bool.and_eq_true] at hd
  have hd1 : 1 ≤ d := Nat.le_of_ble_eq_true hd.1
  have hcs : am_cs r ≤ 8 := Nat.le_of_ble_eq_true hd.2
  simp only [am_okb, Bool.and_eq_true] at hok
  obtain ⟨⟨hle, hdg⟩, hw⟩ := hok
  have hle := Nat.eq_of_beq_eq_true hle
  subst hle
  have hdg := am_dc_e hdg
  have hw := am_wd_g hw rfl
  intro G p l e R s m args below meth c H locs cells slots Q ls C h1 h2 h3 h4 h5 h6 h7 h8 h9 hr
  have ar := am_arr C.2.2.2.2.2.2.2.2.1
  have hroom : ((r.map (am_v G)).map fun v => v.category).sum + (nativeFrameWords "java/lang/System" "arraycopy" 5 + 11) ≤ R.locals := by
    rw [am_cs_m]
    have := am_nfw
    omega
  have hva := am_hd (am_tl (am_tl (am_tl (am_tl h6))))
  have hvb := am_hd (am_tl (am_tl h6))
  split at hB
  · rename_i hk
    obtain ⟨ha, hao⟩ := am_lo hva hk (by decide)
    obtain ⟨hb, hbo⟩ := am_lo hvb (hkk.symm.trans hk) (by decide)
    have eA : am_v G (.ref a) = .ref (am_ph G a) := by show Value.ref (am_ad G a) = _; rw [am_ad_lo hao]
    have eB : am_v G (.ref b) = .ref (am_ph G b) := by show Value.ref (am_ad G b) = _; rw [am_ad_lo hbo]
    show W p l e R s m args below meth c H locs cells slots Q (F0 m pc ls (.int n :: .int dp :: am_v G (.ref b) :: .int sp :: am_v G (.ref a) :: r.map (am_v G)))
    rw [eA, eB]
    have ca := am_cell_i h5 ha (by omega)
    have cb' := am_cell_i h5 hb (by omega)
    rw [hk] at ca
    rw [← hkk, hk] at cb'
    refine am_Wcopy C h9.1 hw ca cb' ar.2.1 rfl c1 c2 c3 c4 c5 (fun i _ => ⟨rfl, fun q hq => by cases hq⟩) (by omega) hroom hdg fun H1 L hL z1 o1 e1 => ?_
    refine hB G p l e R s m args below meth c H1 _ cells slots Q ls C h1 h2 h3 h4 (am_Rp_i h5 hb z1 o1 (am_at_i (by omega) ?_)) (am_tl (am_tl (am_tl (am_tl (am_tl h6))))) h7 (am_S_app h8 hL z1 o1) h9 hr
    rw [e1, ← hkk, hk]
    congr 2
    funext j
    unfold va_cpy
    split <;> rfl
  · rename_i hk
    obtain ⟨ha, hao⟩ := am_lo hva hk (by decide)
    obtain ⟨hb, hbo⟩ := am_lo hvb (hkk.symm.trans hk) (by decide)
    have eA : am_v G (.ref a) = .ref (am_ph G a) := by show Value.ref (am_ad G a) = _; rw [am_ad_lo hao]
    have eB : am_v G (.ref b) = .ref (am_ph G b) := by show Value.ref (am_ad G b) = _; rw [am_ad_lo hbo]
    show W p l e R s m args below meth c H locs cells slots Q (F0 m pc ls (.int n :: .int dp :: am_v G (.ref b) :: .int sp :: am_v G (.ref a) :: r.map (am_v G)))
    rw [eA, eB]
    have ca := am_cell_l h5 ha hk
    have cb' := am_cell_l h5 hb (hkk.symm.trans hk)
    refine am_Wcopy C h9.1 hw ca cb' ar.2.2.1 rfl c1 c2 c3 c4 c5 (fun i _ => ⟨rfl, fun q hq => by cases hq⟩) (by omega) hroom hdg fun H1 L hL z1 o1 e1 => ?_
    refine hB G p l e R s m args below meth c H1 _ cells slots Q ls C h1 h2 h3 h4 (am_Rp_l h5 hb z1 o1 (am_at_l (hkk.symm.trans hk) ?_)) (am_tl (am_tl (am_tl (am_tl (am_tl h6))))) h7 (am_S_app h8 hL z1 o1) h9 hr
    rw [e1]
    congr 2
    funext j
    unfold va_cpy
    split <;> rfl
  · exact hB.elim
theorem am_mw_min : Cond.code Lib.Math.min.name Lib.Math.min.code 2 (some .int) ∈ am_wg ∧ Cond.static Lib.Math.min.name ∈ am_wg ∧ Cond.initialized "java/lang/Math" ∈ am_wg := ⟨am_wgi 719 (by decide +kernel) rfl, am_wgi 718 (by decide +kernel) rfl, am_wgi 186 (by decide +kernel) rfl⟩
theorem am_g_dadd (hok : am_okb P NM (P mi) (pc, .dadd, len, ix, wp) = true) (h : am_p2i st (fun x y r => am_b (Nat.ble 1 d && Nat.ble (am_cs r) 8) (am_T P d mi (pc + len) lv (.int (if y < x then y else x) :: r) σ cb sb Post))) : am_T P d mi pc lv st σ cb sb Post := by
  obtain ⟨x, y, r, rfl, hA⟩ := am_p2i_e h
  obtain ⟨hd, hB⟩ := am_b_e hA
  clear h hA
  rw [Bool.and_eq_true] at hd
  have hd1 : 1 ≤ d := Nat.le_of_ble_eq_true hd.1
  have hcs : am_cs r ≤ 8 := Nat.le_of_ble_eq_true hd.2
  simp only [am_okb, Bool.and_eq_true] at hok
  obtain ⟨⟨hle, hdg⟩, hw⟩ := hok
  have hle := Nat.eq_of_beq_eq_true hle
  subst hle
  have hdg := am_dc_e hdg
  have hw := am_wd_g hw rfl
  intro G p l e R s m args below meth c H locs cells slots Q ls C h1 h2 h3 h4 h5 h6 h7 h8 h9 hr
  have hts := C.2.2.2.2.2.2.2.1
  refine va_mmin C.1 C.2.1 (C.2.2.1.trans h9.1.symm) C.2.2.2.2.2.1 (hts _ hw) (hts _ am_mw_min.2.1) (hts _ am_mw_min.2.2) (hts _ am_mw_min.1) (by omega) (by rw [am_cs_m]; omega) (by omega) (by omega) hdg ?_
  exact hB G p l e R s m args below meth c H locs cells slots Q ls C h1 h2 h3 h4 h5 (am_hc trivial (am_tl (am_tl h6))) h7 h8 h9 hr
theorem am_mw_max : Cond.code Lib.Math.max.name Lib.Math.max.code 2 (some .int) ∈ am_wg ∧ Cond.static Lib.Math.max.name ∈ am_wg ∧ Cond.initialized "java/lang/Math" ∈ am_wg := ⟨am_wgi 1168 (by decide +kernel) rfl, am_wgi 1167 (by decide +kernel) rfl, am_wgi 186 (by decide +kernel) rfl⟩
theorem am_g_dsub (hok : am_okb P NM (P mi) (pc, .dsub, len, ix, wp) = true) (h : am_p2i st (fun x y r => am_b (Nat.ble 1 d && Nat.ble (am_cs r) 8) (am_T P d mi (pc + len) lv (.int (if x < y then y else x) :: r) σ cb sb Post))) : am_T P d mi pc lv st σ cb sb Post := by
  obtain ⟨x, y, r, rfl, hA⟩ := am_p2i_e h
  obtain ⟨hd, hB⟩ := am_b_e hA
  clear h hA
  rw [Bool.and_eq_true] at hd
  have hd1 : 1 ≤ d := Nat.le_of_ble_eq_true hd.1
  have hcs : am_cs r ≤ 8 := Nat.le_of_ble_eq_true hd.2
  simp only [am_okb, Bool.and_eq_true] at hok
  obtain ⟨⟨hle, hdg⟩, hw⟩ := hok
  have hle := Nat.eq_of_beq_eq_true hle
  subst hle
  have hdg := am_dc_e hdg
  have hw := am_wd_g hw rfl
  intro G p l e R s m args below meth c H locs cells slots Q ls C h1 h2 h3 h4 h5 h6 h7 h8 h9 hr
  have hts := C.2.2.2.2.2.2.2.1
  refine va_mmax C.1 C.2.1 (C.2.2.1.trans h9.1.symm) C.2.2.2.2.2.1 (hts _ hw) (hts _ am_mw_max.2.1) (hts _ am_mw_max.2.2) (hts _ am_mw_max.1) (by omega) (by rw [am_cs_m]; omega) (by omega) (by omega) hdg ?_
  exact hB G p l e R s m args below meth c H locs cells slots Q ls C h1 h2 h3 h4 h5 (am_hc trivial (am_tl (am_tl h6))) h7 h8 h9 hr
end AMZ
