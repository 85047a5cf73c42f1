/-! new int[6][40], by the library's own law of it -/
theorem am_outer (c : ClassId) (N h0 : Nat) : ∀ i : Nat, Jvm.Free.Multi.outerC c N h0 i = arrV c N (fun j => va_rf (if j < i then some (h0 + 1 + j) else none))
  | 0 => by
    show ({ cls := c, slots := Array.replicate N .null, vm := .none } : Cell) = _
    rw [arrV_new]
    congr 1
  | i + 1 => by
    show (Jvm.Free.Multi.outerC c N h0 i).setSlot i (.ref (h0 + 1 + i)) = _
    rw [am_outer c N h0 i, arrV_store]
    congr 1
    funext j
    by_cases e : j = i
    · subst e
      simp [updV, va_rf]
    · by_cases h : j < i
      · simp [updV, e, h, Nat.lt_succ_of_lt h]
      · simp [updV, e, h, show ¬ j < i + 1 by omega]
theorem am_kd53 : am_kd 53 = 18 ∧ am_ln 53 = 6 ∧ ∀ j, j < 6 → am_kd (54 + j) = 13 ∧ am_ln (54 + j) = 40 := by decide +kernel
theorem am_Rp_7 {G : am_G} {σ : am_S} {H H1 : Heap} (h : am_Rp G σ H) (hn : am_n σ = 53) (hz : H1.size = H.size + 7) (ho : ∀ q : Nat, q < H.size → H1[q]? = H[q]?) (h0 : H1[am_gB G + 53]? = some (arrV (am_gc G 18) 6 (fun j => va_rf (if j < 6 then some (am_gB G + 53 + 1 + j) else none)))) (hj : ∀ j, j < 6 → H1[am_gB G + 53 + 1 + j]? = some (arrV (am_gc G 13) 40 (fun _ => .int 0))) : am_Rp G (am_new7 σ) H1 := by
  obtain ⟨h1, h2, h3, h4, h5, h6⟩ := h
  obtain ⟨k1, k2, k3⟩ := am_kd53
  have lo : ∀ k, k < 53 → am_E G (am_new7 σ) k = am_E G σ k := by
    intro k hk
    have e1 : am_I (am_new7 σ) k = am_I σ k := if_neg (by omega)
    have e2 : am_L (am_new7 σ) k = am_L σ k := if_neg (by omega)
    have e3 : am_R (am_new7 σ) k = am_R σ k := (if_neg (by omega)).trans (if_neg (by omega))
    unfold am_E
    rw [e1, e2, e3]
    congr 3
    apply List.map_congr_left
    intro i _
    unfold am_fv
    rw [e1, e2, e3]
  refine ⟨fun k q hq => ?_, by rw [hz, h2, hn]; show _ = am_gB G + 60; omega, Nat.le_of_ble_eq_true rfl, fun a k r ha hr => ?_, ?_, ?_⟩
  · have hk : k < 60 := by
      have := (List.getElem?_eq_some_iff.mp hq).1
      rwa [am_WL] at this
    rw [am_Wai (show k < am_n (am_new7 σ) from hk)] at hq
    cases hq
    by_cases c1 : k < 53
    · rw [lo _ (am_ip_lt (by omega) c1)]
      have := h1 k _ (am_Wai (by rw [hn]; exact c1))
      exact this.kept (ho _ (by rw [h2, hn]; show am_gB G + k < _; omega))
    · rw [am_ip_hi (by omega)]
      by_cases c2 : k = 53
      · subst c2
        rw [am_E_q (by omega)]
        have e3 : am_R (am_new7 σ) 53 = fun i => if i < 6 then some (54 + i) else none := rfl
        rw [e3, k1, k2]
        show H1[am_gB G + 53]? = some (vp_cell _ _)
        rw [h0, vp_cell_q]
        congr 2
        funext j
        by_cases c3 : j < 6
        · simp only [c3, if_true, Option.map_some]
          congr 2
          unfold am_ph
          rw [am_pm_hi (by omega)]
          omega
        · simp only [c3, if_false, Option.map_none]
      · obtain ⟨j, hj6, rfl⟩ : ∃ j, j < 6 ∧ k = 54 + j := ⟨k - 54, by omega, by omega⟩
        obtain ⟨g1, g2⟩ := k3 j hj6
        rw [am_E_i (by omega)]
        have e1 : am_I (am_new7 σ) (54 + j) = fun _ => 0 := if_pos (by omega)
        rw [e1, g1, g2]
        have := hj j hj6
        rw [show am_gB G + 53 + 1 + j = am_gB G + (54 + j) by omega] at this
        exact this
  · have ha : a < 60 := am_pm_gt (by omega) ha
    refine am_pm_lt (N := 60) (by omega) ?_
    by_cases c2 : a = 53
    · subst c2
      have e3 : am_R (am_new7 σ) 53 = fun i => if i < 6 then some (54 + i) else none := rfl
      rw [e3] at hr
      by_cases c3 : k < 6
      · simp only [c3, if_true, Option.some.injEq] at hr
        omega
      · simp [c3] at hr
    · by_cases c1 : a < 53
      · have e3 : am_R (am_new7 σ) a = am_R σ a := (if_neg c2).trans (if_neg (by omega))
        rw [e3] at hr
        have := h4 a k r (by rw [hn]; exact am_pm_lt (by omega) c1) hr
        rw [hn] at this
        have := am_pm_gt (by omega) this
        omega
      · have e3 : am_R (am_new7 σ) a = fun _ => none := (if_neg c2).trans (if_pos (by omega))
        rw [e3] at hr
        cases hr
  · rw [← h5]
    exact if_neg (t := (fun _ => (0 : Int32))) (by show ¬ (53 ≤ am_old ∧ am_old < 60); unfold am_old; omega)
  · have e3 : am_R (am_new7 σ) am_old = am_R σ am_old := by
      show (if am_old = 53 then (fun i => if i < 6 then some (54 + i) else none) else if 53 ≤ am_old ∧ am_old < 60 then fun _ => none else am_R σ am_old) = _
      rw [if_neg (by unfold am_old; omega), if_neg (by unfold am_old; omega)]
    rw [e3]
    exact h6
section AMU
variable {P : Nat → am_MI} {NM d mi pc len ix wp cb sb : Nat} {lv : am_LV} {st : List Value} {σ : am_S} {Post : Option Value → am_S → Prop}
theorem am_g_fmul (hok : am_okb P NM (P mi) (pc, .fmul, len, ix, wp) = true) (h : am_p2i st (fun x y r => am_b (Nat.beq (am_n σ) 53) (x = 6 ∧ y = 40 ∧ 7 ≤ cb ∧ 246 ≤ sb ∧ am_T P d mi (pc + len) lv (.ref 53 :: r) (am_new7 σ) (cb - 7) (sb - 246) Post))) : am_T P d mi pc lv st σ cb sb Post := by
  obtain ⟨x, y, r, rfl, hA⟩ := am_p2i_e h
  obtain ⟨hn, rfl, rfl, hcb, hsb, hB⟩ := am_b_e hA
  clear h hA
  have hn := Nat.eq_of_beq_eq_true hn
  simp only [am_okb, Bool.and_eq_true] at hok
  obtain ⟨⟨hle, hdg⟩, hw⟩ := hok
  have hle := Nat.eq_of_beq_eq_true hle
  subst hle
  have hdg := am_dc_e hdg
  have hw := am_wd_g hw rfl
  intro G p l e R s m args below meth c H locs cells slots Q ls C h1 h2 h3 h4 h5 h6 h7 h8 h9 hr
  have hts := C.2.2.2.2.2.2.2.1
  have hK := C.2.2.2.2.2.2.2.2.1
  intro T hT X
  obtain ⟨vm₁, cA, comp, -, fA, fC, -, -, X', step⟩ := X.multianewarray2F C.1 (ty := .int) C.2.2.2.2.2.1 (hts _ hw) (args := args) hK.2.2.2.2.2 (hts _ am_arw.2.1) (g := F0 m pc ls (.int 40 :: .int 6 :: r.map (am_v G))) rfl (by rw [C.2.1]; exact hdg) (n := 6) (k := 40) rfl (by decide) (by decide) (by decide) (by decide) (by decide) rfl rfl (by show cells + (1 + 6) ≤ _; omega) (by show slots + (6 + 6 * 40) ≤ _; omega)
  have eA : cA = am_gc G 18 := Option.some.inj (fA.symm.trans (hK.1.2 6 _ rfl).2)
  have eC : comp = am_gc G 13 := Option.some.inj (fC.symm.trans (am_RA hK).2.1)
  subst eA
  subst eC
  have e6 : (6 : Int32).toNatClampNeg = 6 := by decide
  have e40 : (40 : Int32).toNatClampNeg = 40 := by decide
  rw [e6, e40] at X' step
  obtain ⟨f1, f2, -, -⟩ := Jvm.Free.Multi.fill_facts (T.setVm vm₁) (am_gc G 18) (am_gc G 13) 6 40 (defaultValue .int) 6
  have hTh : (T.setVm vm₁).heap = H := hT
  have hz0 : H.size = am_gB G + 53 := by rw [h5.2.1, hn]
  have hold := fun (q : Nat) (hq : q < H.size) => Jvm.Free.Multi.fill_old (T.setVm vm₁) (am_gc G 18) (am_gc G 13) 6 40 (defaultValue .int) (a := q) (by rw [hTh]; exact hq) 6
  have hin := Jvm.Free.Multi.fill_inner (T.setVm vm₁) (am_gc G 18) (am_gc G 13) 6 40 (defaultValue .int) 6
  generalize Jvm.Free.Multi.fill (T.setVm vm₁) (am_gc G 18) (am_gc G 13) 6 40 (defaultValue .int) 6 = F at X' step f1 f2 hold hin
  rw [hTh] at f1 f2 hold hin
  have hR := am_Rp_7 (H1 := F.heap) h5 hn (by rw [f1]) hold (by rw [← hz0, f2, am_outer]) (fun j hj => by
    rw [← hz0, hin j hj]
    show some ({ cls := am_gc G 13, slots := Array.replicate 40 (defaultValue .int), vm := .none } : Cell) = _
    rw [arrV_new]
    rfl)
  have mono : ∀ v : Value, am_vk (am_n σ) v → am_vk (am_n (am_new7 σ)) v := fun v hv => by
    cases v with
    | ref q => exact Or.imp_left (fun z => by rw [hn] at z; exact Nat.lt_trans z (Nat.le_of_ble_eq_true rfl)) hv
    | _ => exact hv
  have go := hB G p l e R s m args below meth c F.heap locs (cells + 1 + 6) (slots + 6 + 6 * 40) Q ls C h1 h2 (by omega) (by omega) hR (am_hc (Or.inl (Nat.le_of_ble_eq_true rfl)) (fun v hv => mono v (am_tl (am_tl h6) v hv))) (fun q hq => mono _ (h7 q hq)) ⟨by rw [f1]; have := h8.1; omega, fun q g1 g2 => (hold q (Nat.lt_of_lt_of_le g1 h8.1)).trans (h8.2.1 q g1 g2), h8.2.2⟩ h9 hr
  obtain ⟨t, a1, b1⟩ := go F rfl X'
  refine ⟨t, step t ?_, b1⟩
  have e53 : am_v G (.ref 53) = .ref T.heap.size := by
    show Value.ref (am_ad G 53) = _
    rw [am_ad_lo (Nat.le_of_ble_eq_true rfl), hT, hz0]
    rfl
  rw [List.map_cons, e53] at a1
  exact a1
end AMU
