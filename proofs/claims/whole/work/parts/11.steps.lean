/-! ONE INSTRUCTION OF THE REAL MACHINE, from what am_w asks: constants, locals, arithmetic, jumps -/
theorem am_p1i_e {st : List Value} {k : Int32 → List Value → Prop} (h : am_p1i st k) : ∃ x r, st = .int x :: r ∧ k x r := by
  unfold am_p1i at h
  split at h
  · exact ⟨_, _, rfl, h⟩
  · exact h.elim
theorem am_p2i_e {st : List Value} {k : Int32 → Int32 → List Value → Prop} (h : am_p2i st k) : ∃ x y r, st = .int y :: .int x :: r ∧ k x y r := by
  unfold am_p2i at h
  split at h
  · exact ⟨_, _, _, rfl, h⟩
  · exact h.elim
theorem am_p1l_e {st : List Value} {k : Int64 → List Value → Prop} (h : am_p1l st k) : ∃ x r, st = .long x :: r ∧ k x r := by
  unfold am_p1l at h
  split at h
  · exact ⟨_, _, rfl, h⟩
  · exact h.elim
theorem am_p2l_e {st : List Value} {k : Int64 → Int64 → List Value → Prop} (h : am_p2l st k) : ∃ x y r, st = .long y :: .long x :: r ∧ k x y r := by
  unfold am_p2l at h
  split at h
  · exact ⟨_, _, _, rfl, h⟩
  · exact h.elim
theorem am_pil_e {st : List Value} {k : Int64 → Int32 → List Value → Prop} (h : am_pil st k) : ∃ x y r, st = .int y :: .long x :: r ∧ k x y r := by
  unfold am_pil at h
  split at h
  · exact ⟨_, _, _, rfl, h⟩
  · exact h.elim
theorem am_pr_e {st : List Value} {k : Nat → List Value → Prop} (h : am_pr st k) : ∃ a r, st = .ref a :: r ∧ k a r := by
  unfold am_pr at h
  split at h
  · exact ⟨_, _, rfl, h⟩
  · exact h.elim
theorem am_pa_e {st : List Value} {k : Nat → Int32 → List Value → Prop} (h : am_pa st k) : ∃ a i r, st = .int i :: .ref a :: r ∧ k a i r := by
  unfold am_pa at h
  split at h
  · exact ⟨_, _, _, rfl, h⟩
  · exact h.elim
theorem am_pv_e {st : List Value} {k : Value → List Value → Prop} (h : am_pv st k) : ∃ v r, st = v :: r ∧ k v r := by
  unfold am_pv at h
  split at h
  · exact ⟨_, _, rfl, h⟩
  · exact h.elim
theorem am_b_e {b : Bool} {p : Prop} (h : am_b b p) : b = true ∧ p := by
  cases b
  · exact h.elim
  · exact ⟨rfl, h⟩
theorem am_dc_e {b : ByteArray} {pc len : Nat} {i : Instr} (h : am_dc b pc i len = true) : decode b pc = .ok (i, len) := by
  unfold am_dc at h
  split at h
  · rename_i q hq
    rw [hq, of_decide_eq_true h]
  · cases h
theorem am_wd_e {wp : Nat} {w : Cond} (h : am_wd wp w = true) : w ∈ lw_tbl := by
  unfold am_wd at h
  split at h
  · rename_i u hu
    rw [← of_decide_eq_true h]
    exact List.mem_of_getElem? hu
  · cases h
theorem am_wd_g {wp : Nat} {w : Cond} (h : am_wd wp w = true) (g : goodWord w = true) : w ∈ am_wg := List.mem_filter.mpr ⟨am_wd_e h, g⟩
theorem am_dl {b : ByteArray} {pc len n : Nat} {i : Instr} (h : (am_dc b pc i n && Nat.beq len n) = true) : decode b pc = .ok (i, len) ∧ len = n := by
  rw [Bool.and_eq_true] at h
  have := Nat.eq_of_beq_eq_true h.2
  subst this
  exact ⟨am_dc_e h.1, rfl⟩
theorem am_get_e {lv : am_LV} {i : Nat} {v : Value} (h : am_get lv i = some v) : (i, v) ∈ lv := by
  induction lv with
  | nil => cases h
  | cons q lv ih =>
    unfold am_get at h
    split at h
    · rename_i hb
      have := Nat.eq_of_beq_eq_true hb
      cases h
      subst this
      exact List.mem_cons_self
    · exact List.mem_cons_of_mem _ (ih h)
theorem am_lv_at {G : am_G} {ls : Array Slot} {nL : Nat} {lv : am_LV} (h : lv_has ls nL (am_lvm G lv)) {i : Nat} {v : Value} (hv : am_get lv i = some v) : ls[i]? = some (.val (am_v G v)) := h.2.2 (i, am_v G v) (List.mem_map.mpr ⟨(i, v), am_get_e hv, rfl⟩)
theorem am_v_cat (G : am_G) (v : Value) : (am_v G v).category = v.category := by cases v <;> rfl
theorem am_st1_m (G : am_G) (lv : am_LV) (i : Nat) (v : Value) : (i, am_v G v) :: (am_lvm G lv).filter (fun q => !(q.1 == i) && !(q.1 + 1 == i && q.2.category == 2)) = am_lvm G (am_st1 lv i v) := by
  unfold am_lvm am_st1
  rw [List.map_cons, List.filter_map]
  congr 2
  apply List.filter_congr
  intro q _
  simp [am_v_cat]
theorem am_st2_m (G : am_G) (lv : am_LV) (i : Nat) (v : Value) : (i, am_v G v) :: (am_lvm G lv).filter (fun q => !(q.1 == i) && (!(q.1 == i + 1) && !(q.1 + 1 == i && q.2.category == 2))) = am_lvm G (am_st2 lv i v) := by
  unfold am_lvm am_st2
  rw [List.map_cons, List.filter_map]
  congr 2
  apply List.filter_congr
  intro q _
  simp [am_v_cat]
theorem am_st1_k {lv : am_LV} {i n : Nat} {v : Value} (h : ∀ q ∈ lv, am_vk n q.2) (hv : am_vk n v) : ∀ q ∈ am_st1 lv i v, am_vk n q.2 := by
  intro q hq
  rcases List.mem_cons.mp hq with rfl | hq
  · exact hv
  · exact h q (List.mem_filter.mp hq).1
theorem am_st2_k {lv : am_LV} {i n : Nat} {v : Value} (h : ∀ q ∈ lv, am_vk n q.2) (hv : am_vk n v) : ∀ q ∈ am_st2 lv i v, am_vk n q.2 := by
  intro q hq
  rcases List.mem_cons.mp hq with rfl | hq
  · exact hv
  · exact h q (List.mem_filter.mp hq).1
theorem am_hc {n : Nat} {v : Value} {r : List Value} (hv : am_vk n v) (h : ∀ x ∈ r, am_vk n x) : ∀ x ∈ v :: r, am_vk n x := fun x hx => (List.mem_cons.mp hx).elim (fun e => e ▸ hv) (h x)
theorem am_tl {n : Nat} {v : Value} {r : List Value} (h : ∀ x ∈ v :: r, am_vk n x) : ∀ x ∈ r, am_vk n x := fun x hx => h x (List.mem_cons_of_mem _ hx)
theorem am_hd {n : Nat} {v : Value} {r : List Value} (h : ∀ x ∈ v :: r, am_vk n x) : am_vk n v := h v List.mem_cons_self
theorem am_jmp {pc : Nat} {off : Int} (h : decide (0 ≤ (pc : Int) + off) = true) : (pc : Int) + off = (am_j pc off : Int) := by
  have := of_decide_eq_true h
  unfold am_j
  omega
section AMG
variable {P : Nat → am_MI} {NM d mi pc len ix wp cb sb : Nat} {lv : am_LV} {st : List Value} {σ : am_S} {Post : Option Value → am_S → Prop}

theorem am_g_iconst {n : Int} (hok : am_okb P NM (P mi) (pc, .iconst n, len, ix, wp) = true) (h : am_T P d mi (pc + len) lv (.int (Int32.ofInt n) :: st) σ cb sb Post) : am_T P d mi pc lv st σ cb sb Post := by
  obtain ⟨hdg, rfl⟩ := am_dl hok
  intro G p l e R s m args below meth c H locs cells slots Q ls C h1 h2 h3 h4 h5 h6 h7 h8 h9 hr
  refine lv_iconst (v := Int32.ofInt n) C.1 C.2.1 hdg rfl ?_
  exact h G p l e R s m args below meth c H locs cells slots Q ls C h1 h2 h3 h4 h5 (am_hc trivial h6) h7 h8 h9 hr
theorem am_g_bipush {n : Int} (hok : am_okb P NM (P mi) (pc, .bipush n, len, ix, wp) = true) (h : am_T P d mi (pc + len) lv (.int (Int8.ofInt n).toInt32 :: st) σ cb sb Post) : am_T P d mi pc lv st σ cb sb Post := by
  obtain ⟨hdg, rfl⟩ := am_dl hok
  intro G p l e R s m args below meth c H locs cells slots Q ls C h1 h2 h3 h4 h5 h6 h7 h8 h9 hr
  refine lv_bipush (v := (Int8.ofInt n).toInt32) C.1 C.2.1 hdg rfl ?_
  exact h G p l e R s m args below meth c H locs cells slots Q ls C h1 h2 h3 h4 h5 (am_hc trivial h6) h7 h8 h9 hr
theorem am_g_sipush {n : Int} (hok : am_okb P NM (P mi) (pc, .sipush n, len, ix, wp) = true) (h : am_T P d mi (pc + len) lv (.int (Int16.ofInt n).toInt32 :: st) σ cb sb Post) : am_T P d mi pc lv st σ cb sb Post := by
  obtain ⟨hdg, rfl⟩ := am_dl hok
  intro G p l e R s m args below meth c H locs cells slots Q ls C h1 h2 h3 h4 h5 h6 h7 h8 h9 hr
  refine lv_sipush (v := (Int16.ofInt n).toInt32) C.1 C.2.1 hdg rfl ?_
  exact h G p l e R s m args below meth c H locs cells slots Q ls C h1 h2 h3 h4 h5 (am_hc trivial h6) h7 h8 h9 hr
theorem am_g_lconst {n : Fin 2} (hok : am_okb P NM (P mi) (pc, .lconst n, len, ix, wp) = true) (h : am_T P d mi (pc + len) lv (.long (Int64.ofNat n.val) :: st) σ cb sb Post) : am_T P d mi pc lv st σ cb sb Post := by
  obtain ⟨hdg, rfl⟩ := am_dl hok
  intro G p l e R s m args below meth c H locs cells slots Q ls C h1 h2 h3 h4 h5 h6 h7 h8 h9 hr
  refine lv_lconst (v := Int64.ofNat n.val) C.1 C.2.1 hdg rfl ?_
  exact h G p l e R s m args below meth c H locs cells slots Q ls C h1 h2 h3 h4 h5 (am_hc trivial h6) h7 h8 h9 hr
theorem am_g_iload_n {i : Fin 4} {x : Int32} (hok : am_okb P NM (P mi) (pc, .iload_n i, len, ix, wp) = true) (h : am_get lv i.val = some (.int x) ∧ am_T P d mi (pc + len) lv (.int x :: st) σ cb sb Post) : am_T P d mi pc lv st σ cb sb Post := by
  obtain ⟨hx, h⟩ := h
  obtain ⟨hdg, rfl⟩ := am_dl hok
  intro G p l e R s m args below meth c H locs cells slots Q ls C h1 h2 h3 h4 h5 h6 h7 h8 h9 hr
  refine lv_iload_n C.1 C.2.1 hdg rfl (am_lv_at h9 hx) ?_
  exact h G p l e R s m args below meth c H locs cells slots Q ls C h1 h2 h3 h4 h5 (am_hc trivial h6) h7 h8 h9 hr
theorem am_g_iload {i : Nat} {x : Int32} (hok : am_okb P NM (P mi) (pc, .iload i, len, ix, wp) = true) (h : am_get lv i = some (.int x) ∧ am_T P d mi (pc + len) lv (.int x :: st) σ cb sb Post) : am_T P d mi pc lv st σ cb sb Post := by
  obtain ⟨hx, h⟩ := h
  obtain ⟨hdg, rfl⟩ := am_dl hok
  intro G p l e R s m args below meth c H locs cells slots Q ls C h1 h2 h3 h4 h5 h6 h7 h8 h9 hr
  refine lv_iload C.1 C.2.1 hdg (am_lv_at h9 hx) ?_
  exact h G p l e R s m args below meth c H locs cells slots Q ls C h1 h2 h3 h4 h5 (am_hc trivial h6) h7 h8 h9 hr
theorem am_g_lload_n {i : Fin 4} {x : Int64} (hok : am_okb P NM (P mi) (pc, .lload_n i, len, ix, wp) = true) (h : am_get lv i.val = some (.long x) ∧ am_T P d mi (pc + len) lv (.long x :: st) σ cb sb Post) : am_T P d mi pc lv st σ cb sb Post := by
  obtain ⟨hx, h⟩ := h
  obtain ⟨hdg, rfl⟩ := am_dl hok
  intro G p l e R s m args below meth c H locs cells slots Q ls C h1 h2 h3 h4 h5 h6 h7 h8 h9 hr
  refine lv_lload_n C.1 C.2.1 hdg rfl (am_lv_at h9 hx) ?_
  exact h G p l e R s m args below meth c H locs cells slots Q ls C h1 h2 h3 h4 h5 (am_hc trivial h6) h7 h8 h9 hr
theorem am_g_lload {i : Nat} {x : Int64} (hok : am_okb P NM (P mi) (pc, .lload i, len, ix, wp) = true) (h : am_get lv i = some (.long x) ∧ am_T P d mi (pc + len) lv (.long x :: st) σ cb sb Post) : am_T P d mi pc lv st σ cb sb Post := by
  obtain ⟨hx, h⟩ := h
  obtain ⟨hdg, rfl⟩ := am_dl hok
  intro G p l e R s m args below meth c H locs cells slots Q ls C h1 h2 h3 h4 h5 h6 h7 h8 h9 hr
  refine lv_lload C.1 C.2.1 hdg (am_lv_at h9 hx) ?_
  exact h G p l e R s m args below meth c H locs cells slots Q ls C h1 h2 h3 h4 h5 (am_hc trivial h6) h7 h8 h9 hr
theorem am_g_aload_n {i : Fin 4} {x : Nat} (hok : am_okb P NM (P mi) (pc, .aload_n i, len, ix, wp) = true) (h : am_get lv i.val = some (.ref x) ∧ am_T P d mi (pc + len) lv (.ref x :: st) σ cb sb Post) : am_T P d mi pc lv st σ cb sb Post := by
  obtain ⟨hx, h⟩ := h
  obtain ⟨hdg, rfl⟩ := am_dl hok
  intro G p l e R s m args below meth c H locs cells slots Q ls C h1 h2 h3 h4 h5 h6 h7 h8 h9 hr
  refine lv_aload_n C.1 C.2.1 hdg rfl (am_lv_at h9 hx) ?_
  exact h G p l e R s m args below meth c H locs cells slots Q ls C h1 h2 h3 h4 h5 (am_hc (h7 _ (am_get_e hx)) h6) h7 h8 h9 hr
theorem am_g_aload {i : Nat} {x : Nat} (hok : am_okb P NM (P mi) (pc, .aload i, len, ix, wp) = true) (h : am_get lv i = some (.ref x) ∧ am_T P d mi (pc + len) lv (.ref x :: st) σ cb sb Post) : am_T P d mi pc lv st σ cb sb Post := by
  obtain ⟨hx, h⟩ := h
  obtain ⟨hdg, rfl⟩ := am_dl hok
  intro G p l e R s m args below meth c H locs cells slots Q ls C h1 h2 h3 h4 h5 h6 h7 h8 h9 hr
  refine lv_aload C.1 C.2.1 hdg (am_lv_at h9 hx) ?_
  exact h G p l e R s m args below meth c H locs cells slots Q ls C h1 h2 h3 h4 h5 (am_hc (h7 _ (am_get_e hx)) h6) h7 h8 h9 hr
theorem am_g_istore_n {i : Fin 4} (hok : am_okb P NM (P mi) (pc, .istore_n i, len, ix, wp) = true) (h : am_p1i st (fun x r => am_b (Nat.blt i.val (am_ml (P mi))) (am_T P d mi (pc + len) (am_st1 lv i.val (.int x)) r σ cb sb Post))) : am_T P d mi pc lv st σ cb sb Post := by
  obtain ⟨x, r, rfl, h⟩ := am_p1i_e h
  obtain ⟨hlt, h⟩ := am_b_e h
  obtain ⟨hdg, rfl⟩ := am_dl hok
  intro G p l e R s m args below meth c H locs cells slots Q ls C h1 h2 h3 h4 h5 h6 h7 h8 h9 hr
  refine lv_istore_n C.1 C.2.1 hdg rfl h9 (Nat.le_of_ble_eq_true hlt) (am_st1_m G lv i.val (.int x)) (fun ls hl => ?_)
  exact h G p l e R s m args below meth c H locs cells slots Q ls C h1 h2 h3 h4 h5 (am_tl h6) (am_st1_k h7 trivial) h8 hl hr
theorem am_g_istore {i : Nat} (hok : am_okb P NM (P mi) (pc, .istore i, len, ix, wp) = true) (h : am_p1i st (fun x r => am_b (Nat.blt i (am_ml (P mi))) (am_T P d mi (pc + len) (am_st1 lv i (.int x)) r σ cb sb Post))) : am_T P d mi pc lv st σ cb sb Post := by
  obtain ⟨x, r, rfl, h⟩ := am_p1i_e h
  obtain ⟨hlt, h⟩ := am_b_e h
  obtain ⟨hdg, rfl⟩ := am_dl hok
  intro G p l e R s m args below meth c H locs cells slots Q ls C h1 h2 h3 h4 h5 h6 h7 h8 h9 hr
  refine lv_istore C.1 C.2.1 hdg h9 (Nat.le_of_ble_eq_true hlt) (am_st1_m G lv i (.int x)) (fun ls hl => ?_)
  exact h G p l e R s m args below meth c H locs cells slots Q ls C h1 h2 h3 h4 h5 (am_tl h6) (am_st1_k h7 trivial) h8 hl hr
theorem am_g_astore_n {i : Fin 4} (hok : am_okb P NM (P mi) (pc, .astore_n i, len, ix, wp) = true) (h : am_pr st (fun x r => am_b (Nat.blt i.val (am_ml (P mi))) (am_T P d mi (pc + len) (am_st1 lv i.val (.ref x)) r σ cb sb Post))) : am_T P d mi pc lv st σ cb sb Post := by
  obtain ⟨x, r, rfl, h⟩ := am_pr_e h
  obtain ⟨hlt, h⟩ := am_b_e h
  obtain ⟨hdg, rfl⟩ := am_dl hok
  intro G p l e R s m args below meth c H locs cells slots Q ls C h1 h2 h3 h4 h5 h6 h7 h8 h9 hr
  refine lv_astore_n C.1 C.2.1 hdg rfl h9 (Nat.le_of_ble_eq_true hlt) (am_st1_m G lv i.val (.ref x)) (fun ls hl => ?_)
  exact h G p l e R s m args below meth c H locs cells slots Q ls C h1 h2 h3 h4 h5 (am_tl h6) (am_st1_k h7 (am_hd h6)) h8 hl hr
theorem am_g_astore {i : Nat} (hok : am_okb P NM (P mi) (pc, .astore i, len, ix, wp) = true) (h : am_pr st (fun x r => am_b (Nat.blt i (am_ml (P mi))) (am_T P d mi (pc + len) (am_st1 lv i (.ref x)) r σ cb sb Post))) : am_T P d mi pc lv st σ cb sb Post := by
  obtain ⟨x, r, rfl, h⟩ := am_pr_e h
  obtain ⟨hlt, h⟩ := am_b_e h
  obtain ⟨hdg, rfl⟩ := am_dl hok
  intro G p l e R s m args below meth c H locs cells slots Q ls C h1 h2 h3 h4 h5 h6 h7 h8 h9 hr
  refine lv_astore C.1 C.2.1 hdg h9 (Nat.le_of_ble_eq_true hlt) (am_st1_m G lv i (.ref x)) (fun ls hl => ?_)
  exact h G p l e R s m args below meth c H locs cells slots Q ls C h1 h2 h3 h4 h5 (am_tl h6) (am_st1_k h7 (am_hd h6)) h8 hl hr
theorem am_g_lstore_n {i : Fin 4} (hok : am_okb P NM (P mi) (pc, .lstore_n i, len, ix, wp) = true) (h : am_p1l st (fun x r => am_b (Nat.blt (i.val + 1) (am_ml (P mi))) (am_T P d mi (pc + len) (am_st2 lv i.val (.long x)) r σ cb sb Post))) : am_T P d mi pc lv st σ cb sb Post := by
  obtain ⟨x, r, rfl, h⟩ := am_p1l_e h
  obtain ⟨hlt, h⟩ := am_b_e h
  obtain ⟨hdg, rfl⟩ := am_dl hok
  intro G p l e R s m args below meth c H locs cells slots Q ls C h1 h2 h3 h4 h5 h6 h7 h8 h9 hr
  refine lv_lstore_n C.1 C.2.1 hdg rfl h9 (Nat.le_of_ble_eq_true hlt) (am_st2_m G lv i.val (.long x)) (fun ls hl => ?_)
  exact h G p l e R s m args below meth c H locs cells slots Q ls C h1 h2 h3 h4 h5 (am_tl h6) (am_st2_k h7 trivial) h8 hl hr
theorem am_g_lstore {i : Nat} (hok : am_okb P NM (P mi) (pc, .lstore i, len, ix, wp) = true) (h : am_p1l st (fun x r => am_b (Nat.blt (i + 1) (am_ml (P mi))) (am_T P d mi (pc + len) (am_st2 lv i (.long x)) r σ cb sb Post))) : am_T P d mi pc lv st σ cb sb Post := by
  obtain ⟨x, r, rfl, h⟩ := am_p1l_e h
  obtain ⟨hlt, h⟩ := am_b_e h
  obtain ⟨hdg, rfl⟩ := am_dl hok
  intro G p l e R s m args below meth c H locs cells slots Q ls C h1 h2 h3 h4 h5 h6 h7 h8 h9 hr
  refine lv_lstore C.1 C.2.1 hdg h9 (Nat.le_of_ble_eq_true hlt) (am_st2_m G lv i (.long x)) (fun ls hl => ?_)
  exact h G p l e R s m args below meth c H locs cells slots Q ls C h1 h2 h3 h4 h5 (am_tl h6) (am_st2_k h7 trivial) h8 hl hr
theorem am_g_iinc {i : Nat} {n : Int} {x : Int32} (hok : am_okb P NM (P mi) (pc, .iinc i n, len, ix, wp) = true) (h : am_get lv i = some (.int x) ∧ am_b (Nat.blt i (am_ml (P mi))) (am_T P d mi (pc + len) (am_st1 lv i (.int (x + Int32.ofInt n))) st σ cb sb Post)) : am_T P d mi pc lv st σ cb sb Post := by
  obtain ⟨hx, h⟩ := h
  obtain ⟨hlt, h⟩ := am_b_e h
  obtain ⟨hdg, rfl⟩ := am_dl hok
  intro G p l e R s m args below meth c H locs cells slots Q ls C h1 h2 h3 h4 h5 h6 h7 h8 h9 hr
  obtain ⟨k, hk⟩ := List.getElem?_of_mem (List.mem_map.mpr ⟨(i, Value.int x), am_get_e hx, rfl⟩ : (i, am_v G (.int x)) ∈ am_lvm G lv)
  refine lv_iinc (v := x + Int32.ofInt n) C.1 C.2.1 hdg h9 hk rfl (Nat.le_of_ble_eq_true hlt) (am_st1_m G lv i (.int (x + Int32.ofInt n))) (fun ls hl => ?_)
  exact h G p l e R s m args below meth c H locs cells slots Q ls C h1 h2 h3 h4 h5 h6 (am_st1_k h7 trivial) h8 hl hr
theorem am_g_iadd (hok : am_okb P NM (P mi) (pc, .iadd, len, ix, wp) = true) (h : am_p2i st (fun x y r => am_T P d mi (pc + len) lv (.int (x + y) :: r) σ cb sb Post)) : am_T P d mi pc lv st σ cb sb Post := by
  obtain ⟨x, y, r, rfl, h⟩ := am_p2i_e h
  obtain ⟨hdg, rfl⟩ := am_dl hok
  intro G p l e R s m args below meth c H locs cells slots Q ls C h1 h2 h3 h4 h5 h6 h7 h8 h9 hr
  refine lv_iadd C.1 C.2.1 hdg ?_
  exact h G p l e R s m args below meth c H locs cells slots Q ls C h1 h2 h3 h4 h5 (am_hc trivial (am_tl (am_tl h6))) h7 h8 h9 hr
theorem am_g_isub (hok : am_okb P NM (P mi) (pc, .isub, len, ix, wp) = true) (h : am_p2i st (fun x y r => am_T P d mi (pc + len) lv (.int (x - y) :: r) σ cb sb Post)) : am_T P d mi pc lv st σ cb sb Post := by
  obtain ⟨x, y, r, rfl, h⟩ := am_p2i_e h
  obtain ⟨hdg, rfl⟩ := am_dl hok
  intro G p l e R s m args below meth c H locs cells slots Q ls C h1 h2 h3 h4 h5 h6 h7 h8 h9 hr
  refine lv_isub C.1 C.2.1 hdg ?_
  exact h G p l e R s m args below meth c H locs cells slots Q ls C h1 h2 h3 h4 h5 (am_hc trivial (am_tl (am_tl h6))) h7 h8 h9 hr
theorem am_g_imul (hok : am_okb P NM (P mi) (pc, .imul, len, ix, wp) = true) (h : am_p2i st (fun x y r => am_T P d mi (pc + len) lv (.int (x * y) :: r) σ cb sb Post)) : am_T P d mi pc lv st σ cb sb Post := by
  obtain ⟨x, y, r, rfl, h⟩ := am_p2i_e h
  obtain ⟨hdg, rfl⟩ := am_dl hok
  intro G p l e R s m args below meth c H locs cells slots Q ls C h1 h2 h3 h4 h5 h6 h7 h8 h9 hr
  refine lv_imul C.1 C.2.1 hdg ?_
  exact h G p l e R s m args below meth c H locs cells slots Q ls C h1 h2 h3 h4 h5 (am_hc trivial (am_tl (am_tl h6))) h7 h8 h9 hr
theorem am_g_iand (hok : am_okb P NM (P mi) (pc, .iand, len, ix, wp) = true) (h : am_p2i st (fun x y r => am_T P d mi (pc + len) lv (.int (x &&& y) :: r) σ cb sb Post)) : am_T P d mi pc lv st σ cb sb Post := by
  obtain ⟨x, y, r, rfl, h⟩ := am_p2i_e h
  obtain ⟨hdg, rfl⟩ := am_dl hok
  intro G p l e R s m args below meth c H locs cells slots Q ls C h1 h2 h3 h4 h5 h6 h7 h8 h9 hr
  refine lv_iand C.1 C.2.1 hdg ?_
  exact h G p l e R s m args below meth c H locs cells slots Q ls C h1 h2 h3 h4 h5 (am_hc trivial (am_tl (am_tl h6))) h7 h8 h9 hr
theorem am_g_ior (hok : am_okb P NM (P mi) (pc, .ior, len, ix, wp) = true) (h : am_p2i st (fun x y r => am_T P d mi (pc + len) lv (.int (x ||| y) :: r) σ cb sb Post)) : am_T P d mi pc lv st σ cb sb Post := by
  obtain ⟨x, y, r, rfl, h⟩ := am_p2i_e h
  obtain ⟨hdg, rfl⟩ := am_dl hok
  intro G p l e R s m args below meth c H locs cells slots Q ls C h1 h2 h3 h4 h5 h6 h7 h8 h9 hr
  refine lv_ior C.1 C.2.1 hdg ?_
  exact h G p l e R s m args below meth c H locs cells slots Q ls C h1 h2 h3 h4 h5 (am_hc trivial (am_tl (am_tl h6))) h7 h8 h9 hr
theorem am_g_ishl (hok : am_okb P NM (P mi) (pc, .ishl, len, ix, wp) = true) (h : am_p2i st (fun x y r => am_T P d mi (pc + len) lv (.int (x <<< (y &&& 31)) :: r) σ cb sb Post)) : am_T P d mi pc lv st σ cb sb Post := by
  obtain ⟨x, y, r, rfl, h⟩ := am_p2i_e h
  obtain ⟨hdg, rfl⟩ := am_dl hok
  intro G p l e R s m args below meth c H locs cells slots Q ls C h1 h2 h3 h4 h5 h6 h7 h8 h9 hr
  refine lv_ishl C.1 C.2.1 hdg ?_
  exact h G p l e R s m args below meth c H locs cells slots Q ls C h1 h2 h3 h4 h5 (am_hc trivial (am_tl (am_tl h6))) h7 h8 h9 hr
theorem am_g_ishr (hok : am_okb P NM (P mi) (pc, .ishr, len, ix, wp) = true) (h : am_p2i st (fun x y r => am_T P d mi (pc + len) lv (.int (x >>> (y &&& 31)) :: r) σ cb sb Post)) : am_T P d mi pc lv st σ cb sb Post := by
  obtain ⟨x, y, r, rfl, h⟩ := am_p2i_e h
  obtain ⟨hdg, rfl⟩ := am_dl hok
  intro G p l e R s m args below meth c H locs cells slots Q ls C h1 h2 h3 h4 h5 h6 h7 h8 h9 hr
  refine lv_ishr C.1 C.2.1 hdg ?_
  exact h G p l e R s m args below meth c H locs cells slots Q ls C h1 h2 h3 h4 h5 (am_hc trivial (am_tl (am_tl h6))) h7 h8 h9 hr
theorem am_g_iushr (hok : am_okb P NM (P mi) (pc, .iushr, len, ix, wp) = true) (h : am_p2i st (fun x y r => am_T P d mi (pc + len) lv (.int (x.toUInt32 >>> (y.toUInt32 &&& Int32.toUInt32 31)).toInt32 :: r) σ cb sb Post)) : am_T P d mi pc lv st σ cb sb Post := by
  obtain ⟨x, y, r, rfl, h⟩ := am_p2i_e h
  obtain ⟨hdg, rfl⟩ := am_dl hok
  intro G p l e R s m args below meth c H locs cells slots Q ls C h1 h2 h3 h4 h5 h6 h7 h8 h9 hr
  refine lv_iushr C.1 C.2.1 hdg rfl ?_
  exact h G p l e R s m args below meth c H locs cells slots Q ls C h1 h2 h3 h4 h5 (am_hc trivial (am_tl (am_tl h6))) h7 h8 h9 hr
theorem am_g_idiv (hok : am_okb P NM (P mi) (pc, .idiv, len, ix, wp) = true) (h : am_p2i st (fun x y r => ¬ y = 0 ∧ am_T P d mi (pc + len) lv (.int (x / y) :: r) σ cb sb Post)) : am_T P d mi pc lv st σ cb sb Post := by
  obtain ⟨x, y, r, rfl, hne, h⟩ := am_p2i_e h
  obtain ⟨hdg, rfl⟩ := am_dl hok
  intro G p l e R s m args below meth c H locs cells slots Q ls C h1 h2 h3 h4 h5 h6 h7 h8 h9 hr
  refine lv_idiv C.1 C.2.1 hdg hne ?_
  exact h G p l e R s m args below meth c H locs cells slots Q ls C h1 h2 h3 h4 h5 (am_hc trivial (am_tl (am_tl h6))) h7 h8 h9 hr
theorem am_g_irem (hok : am_okb P NM (P mi) (pc, .irem, len, ix, wp) = true) (h : am_p2i st (fun x y r => ¬ y = 0 ∧ am_T P d mi (pc + len) lv (.int (x - x / y * y) :: r) σ cb sb Post)) : am_T P d mi pc lv st σ cb sb Post := by
  obtain ⟨x, y, r, rfl, hne, h⟩ := am_p2i_e h
  obtain ⟨hdg, rfl⟩ := am_dl hok
  intro G p l e R s m args below meth c H locs cells slots Q ls C h1 h2 h3 h4 h5 h6 h7 h8 h9 hr
  refine lv_irem C.1 C.2.1 hdg hne ?_
  exact h G p l e R s m args below meth c H locs cells slots Q ls C h1 h2 h3 h4 h5 (am_hc trivial (am_tl (am_tl h6))) h7 h8 h9 hr
theorem am_g_ladd (hok : am_okb P NM (P mi) (pc, .ladd, len, ix, wp) = true) (h : am_p2l st (fun x y r => am_T P d mi (pc + len) lv (.long (x + y) :: r) σ cb sb Post)) : am_T P d mi pc lv st σ cb sb Post := by
  obtain ⟨x, y, r, rfl, h⟩ := am_p2l_e h
  obtain ⟨hdg, rfl⟩ := am_dl hok
  intro G p l e R s m args below meth c H locs cells slots Q ls C h1 h2 h3 h4 h5 h6 h7 h8 h9 hr
  refine lv_ladd C.1 C.2.1 hdg ?_
  exact h G p l e R s m args below meth c H locs cells slots Q ls C h1 h2 h3 h4 h5 (am_hc trivial (am_tl (am_tl h6))) h7 h8 h9 hr
theorem am_g_lsub (hok : am_okb P NM (P mi) (pc, .lsub, len, ix, wp) = true) (h : am_p2l st (fun x y r => am_T P d mi (pc + len) lv (.long (x - y) :: r) σ cb sb Post)) : am_T P d mi pc lv st σ cb sb Post := by
  obtain ⟨x, y, r, rfl, h⟩ := am_p2l_e h
  obtain ⟨hdg, rfl⟩ := am_dl hok
  intro G p l e R s m args below meth c H locs cells slots Q ls C h1 h2 h3 h4 h5 h6 h7 h8 h9 hr
  refine lv_lsub C.1 C.2.1 hdg ?_
  exact h G p l e R s m args below meth c H locs cells slots Q ls C h1 h2 h3 h4 h5 (am_hc trivial (am_tl (am_tl h6))) h7 h8 h9 hr
theorem am_g_lmul (hok : am_okb P NM (P mi) (pc, .lmul, len, ix, wp) = true) (h : am_p2l st (fun x y r => am_T P d mi (pc + len) lv (.long (x * y) :: r) σ cb sb Post)) : am_T P d mi pc lv st σ cb sb Post := by
  obtain ⟨x, y, r, rfl, h⟩ := am_p2l_e h
  obtain ⟨hdg, rfl⟩ := am_dl hok
  intro G p l e R s m args below meth c H locs cells slots Q ls C h1 h2 h3 h4 h5 h6 h7 h8 h9 hr
  refine lv_lmul C.1 C.2.1 hdg ?_
  exact h G p l e R s m args below meth c H locs cells slots Q ls C h1 h2 h3 h4 h5 (am_hc trivial (am_tl (am_tl h6))) h7 h8 h9 hr
theorem am_g_land (hok : am_okb P NM (P mi) (pc, .land, len, ix, wp) = true) (h : am_p2l st (fun x y r => am_T P d mi (pc + len) lv (.long (x &&& y) :: r) σ cb sb Post)) : am_T P d mi pc lv st σ cb sb Post := by
  obtain ⟨x, y, r, rfl, h⟩ := am_p2l_e h
  obtain ⟨hdg, rfl⟩ := am_dl hok
  intro G p l e R s m args below meth c H locs cells slots Q ls C h1 h2 h3 h4 h5 h6 h7 h8 h9 hr
  refine lv_land C.1 C.2.1 hdg ?_
  exact h G p l e R s m args below meth c H locs cells slots Q ls C h1 h2 h3 h4 h5 (am_hc trivial (am_tl (am_tl h6))) h7 h8 h9 hr
theorem am_g_lor (hok : am_okb P NM (P mi) (pc, .lor, len, ix, wp) = true) (h : am_p2l st (fun x y r => am_T P d mi (pc + len) lv (.long (x ||| y) :: r) σ cb sb Post)) : am_T P d mi pc lv st σ cb sb Post := by
  obtain ⟨x, y, r, rfl, h⟩ := am_p2l_e h
  obtain ⟨hdg, rfl⟩ := am_dl hok
  intro G p l e R s m args below meth c H locs cells slots Q ls C h1 h2 h3 h4 h5 h6 h7 h8 h9 hr
  refine lv_lor C.1 C.2.1 hdg ?_
  exact h G p l e R s m args below meth c H locs cells slots Q ls C h1 h2 h3 h4 h5 (am_hc trivial (am_tl (am_tl h6))) h7 h8 h9 hr
theorem am_g_ldiv (hok : am_okb P NM (P mi) (pc, .ldiv, len, ix, wp) = true) (h : am_p2l st (fun x y r => ¬ y = 0 ∧ am_T P d mi (pc + len) lv (.long (x / y) :: r) σ cb sb Post)) : am_T P d mi pc lv st σ cb sb Post := by
  obtain ⟨x, y, r, rfl, hne, h⟩ := am_p2l_e h
  obtain ⟨hdg, rfl⟩ := am_dl hok
  intro G p l e R s m args below meth c H locs cells slots Q ls C h1 h2 h3 h4 h5 h6 h7 h8 h9 hr
  refine lv_ldiv C.1 C.2.1 hdg hne ?_
  exact h G p l e R s m args below meth c H locs cells slots Q ls C h1 h2 h3 h4 h5 (am_hc trivial (am_tl (am_tl h6))) h7 h8 h9 hr
theorem am_g_lrem (hok : am_okb P NM (P mi) (pc, .lrem, len, ix, wp) = true) (h : am_p2l st (fun x y r => ¬ y = 0 ∧ am_T P d mi (pc + len) lv (.long (x - x / y * y) :: r) σ cb sb Post)) : am_T P d mi pc lv st σ cb sb Post := by
  obtain ⟨x, y, r, rfl, hne, h⟩ := am_p2l_e h
  obtain ⟨hdg, rfl⟩ := am_dl hok
  intro G p l e R s m args below meth c H locs cells slots Q ls C h1 h2 h3 h4 h5 h6 h7 h8 h9 hr
  refine lv_lrem C.1 C.2.1 hdg hne ?_
  exact h G p l e R s m args below meth c H locs cells slots Q ls C h1 h2 h3 h4 h5 (am_hc trivial (am_tl (am_tl h6))) h7 h8 h9 hr
theorem am_g_lshl (hok : am_okb P NM (P mi) (pc, .lshl, len, ix, wp) = true) (h : am_pil st (fun x y r => am_T P d mi (pc + len) lv (.long (x <<< (y.toInt64 &&& 63)) :: r) σ cb sb Post)) : am_T P d mi pc lv st σ cb sb Post := by
  obtain ⟨x, y, r, rfl, h⟩ := am_pil_e h
  obtain ⟨hdg, rfl⟩ := am_dl hok
  intro G p l e R s m args below meth c H locs cells slots Q ls C h1 h2 h3 h4 h5 h6 h7 h8 h9 hr
  refine lv_lshl C.1 C.2.1 hdg rfl ?_
  exact h G p l e R s m args below meth c H locs cells slots Q ls C h1 h2 h3 h4 h5 (am_hc trivial (am_tl (am_tl h6))) h7 h8 h9 hr
theorem am_g_lcmp (hok : am_okb P NM (P mi) (pc, .lcmp, len, ix, wp) = true) (h : am_p2l st (fun x y r => am_T P d mi (pc + len) lv (.int (lg_cmp x y) :: r) σ cb sb Post)) : am_T P d mi pc lv st σ cb sb Post := by
  obtain ⟨x, y, r, rfl, h⟩ := am_p2l_e h
  obtain ⟨hdg, rfl⟩ := am_dl hok
  intro G p l e R s m args below meth c H locs cells slots Q ls C h1 h2 h3 h4 h5 h6 h7 h8 h9 hr
  refine W.lcmp C.1 C.2.1 hdg ?_
  exact h G p l e R s m args below meth c H locs cells slots Q ls C h1 h2 h3 h4 h5 (am_hc trivial (am_tl (am_tl h6))) h7 h8 h9 hr
theorem am_g_i2l (hok : am_okb P NM (P mi) (pc, .i2l, len, ix, wp) = true) (h : am_p1i st (fun x r => am_T P d mi (pc + len) lv (.long x.toInt64 :: r) σ cb sb Post)) : am_T P d mi pc lv st σ cb sb Post := by
  obtain ⟨x, r, rfl, h⟩ := am_p1i_e h
  obtain ⟨hdg, rfl⟩ := am_dl hok
  intro G p l e R s m args below meth c H locs cells slots Q ls C h1 h2 h3 h4 h5 h6 h7 h8 h9 hr
  refine lv_i2l C.1 C.2.1 hdg rfl ?_
  exact h G p l e R s m args below meth c H locs cells slots Q ls C h1 h2 h3 h4 h5 (am_hc trivial (am_tl h6)) h7 h8 h9 hr
theorem am_g_l2i (hok : am_okb P NM (P mi) (pc, .l2i, len, ix, wp) = true) (h : am_p1l st (fun x r => am_T P d mi (pc + len) lv (.int x.toInt32 :: r) σ cb sb Post)) : am_T P d mi pc lv st σ cb sb Post := by
  obtain ⟨x, r, rfl, h⟩ := am_p1l_e h
  obtain ⟨hdg, rfl⟩ := am_dl hok
  intro G p l e R s m args below meth c H locs cells slots Q ls C h1 h2 h3 h4 h5 h6 h7 h8 h9 hr
  refine lv_l2i C.1 C.2.1 hdg rfl ?_
  exact h G p l e R s m args below meth c H locs cells slots Q ls C h1 h2 h3 h4 h5 (am_hc trivial (am_tl h6)) h7 h8 h9 hr
theorem am_g_i2b (hok : am_okb P NM (P mi) (pc, .i2b, len, ix, wp) = true) (h : am_p1i st (fun x r => am_T P d mi (pc + len) lv (.int x.toInt8.toInt32 :: r) σ cb sb Post)) : am_T P d mi pc lv st σ cb sb Post := by
  obtain ⟨x, r, rfl, h⟩ := am_p1i_e h
  obtain ⟨hdg, rfl⟩ := am_dl hok
  intro G p l e R s m args below meth c H locs cells slots Q ls C h1 h2 h3 h4 h5 h6 h7 h8 h9 hr
  refine lv_i2b C.1 C.2.1 hdg rfl ?_
  exact h G p l e R s m args below meth c H locs cells slots Q ls C h1 h2 h3 h4 h5 (am_hc trivial (am_tl h6)) h7 h8 h9 hr
theorem am_g_i2s (hok : am_okb P NM (P mi) (pc, .i2s, len, ix, wp) = true) (h : am_p1i st (fun x r => am_T P d mi (pc + len) lv (.int x.toInt16.toInt32 :: r) σ cb sb Post)) : am_T P d mi pc lv st σ cb sb Post := by
  obtain ⟨x, r, rfl, h⟩ := am_p1i_e h
  obtain ⟨hdg, rfl⟩ := am_dl hok
  intro G p l e R s m args below meth c H locs cells slots Q ls C h1 h2 h3 h4 h5 h6 h7 h8 h9 hr
  refine lv_i2s C.1 C.2.1 hdg rfl ?_
  exact h G p l e R s m args below meth c H locs cells slots Q ls C h1 h2 h3 h4 h5 (am_hc trivial (am_tl h6)) h7 h8 h9 hr
theorem am_g_dup (hok : am_okb P NM (P mi) (pc, .dup, len, ix, wp) = true) (h : am_pv st (fun v r => am_b (Nat.beq v.category 1) (am_T P d mi (pc + len) lv (v :: v :: r) σ cb sb Post))) : am_T P d mi pc lv st σ cb sb Post := by
  obtain ⟨v, r, rfl, h⟩ := am_pv_e h
  obtain ⟨hc, h⟩ := am_b_e h
  obtain ⟨hdg, rfl⟩ := am_dl hok
  intro G p l e R s m args below meth c H locs cells slots Q ls C h1 h2 h3 h4 h5 h6 h7 h8 h9 hr
  refine lv_dup C.1 C.2.1 hdg ((am_v_cat G v).trans (Nat.eq_of_beq_eq_true hc)) ?_
  exact h G p l e R s m args below meth c H locs cells slots Q ls C h1 h2 h3 h4 h5 (am_hc (am_hd h6) h6) h7 h8 h9 hr
theorem am_g_pop (hok : am_okb P NM (P mi) (pc, .pop, len, ix, wp) = true) (h : am_pv st (fun v r => am_b (Nat.beq v.category 1) (am_T P d mi (pc + len) lv r σ cb sb Post))) : am_T P d mi pc lv st σ cb sb Post := by
  obtain ⟨v, r, rfl, h⟩ := am_pv_e h
  obtain ⟨hc, h⟩ := am_b_e h
  obtain ⟨hdg, rfl⟩ := am_dl hok
  intro G p l e R s m args below meth c H locs cells slots Q ls C h1 h2 h3 h4 h5 h6 h7 h8 h9 hr
  refine lv_pop C.1 C.2.1 hdg ((am_v_cat G v).trans (Nat.eq_of_beq_eq_true hc)) ?_
  exact h G p l e R s m args below meth c H locs cells slots Q ls C h1 h2 h3 h4 h5 (am_tl h6) h7 h8 h9 hr
theorem am_g_dup2 (hok : am_okb P NM (P mi) (pc, .dup2, len, ix, wp) = true) (h : am_pv st (fun v r => am_pv r (fun u r => am_b (Nat.beq v.category 1) (am_b (Nat.beq u.category 1) (am_T P d mi (pc + len) lv (v :: u :: v :: u :: r) σ cb sb Post))))) : am_T P d mi pc lv st σ cb sb Post := by
  obtain ⟨v, r', rfl, ha⟩ := am_pv_e h
  obtain ⟨u, r, rfl, hb⟩ := am_pv_e ha
  obtain ⟨hc, hb⟩ := am_b_e hb
  obtain ⟨hd, h⟩ := am_b_e hb
  obtain ⟨hdg, rfl⟩ := am_dl hok
  intro G p l e R s m args below meth c H locs cells slots Q ls C h1 h2 h3 h4 h5 h6 h7 h8 h9 hr
  refine lv_dup2_11 C.1 C.2.1 hdg ((am_v_cat G v).trans (Nat.eq_of_beq_eq_true hc)) ((am_v_cat G u).trans (Nat.eq_of_beq_eq_true hd)) ?_
  exact h G p l e R s m args below meth c H locs cells slots Q ls C h1 h2 h3 h4 h5 (am_hc (am_hd h6) (am_hc (am_hd (am_tl h6)) h6)) h7 h8 h9 hr
theorem am_ltn {x y : Int32} (h : ¬ y ≤ x) : x < y := Int32.not_le.mp h

theorem am_g_ifCond {c' : ClassFile.Cond} {off : Int} (hok : am_okb P NM (P mi) (pc, .ifCond c' off, len, ix, wp) = true) (h : am_p1i st (fun x r => (am_cmp c' x 0 → am_T P d mi (am_j pc off) lv r σ cb sb Post) ∧ (¬ am_cmp c' x 0 → am_T P d mi (pc + len) lv r σ cb sb Post))) : am_T P d mi pc lv st σ cb sb Post := by
  obtain ⟨x, r, rfl, hA, hB⟩ := am_p1i_e h
  simp only [am_okb, Bool.and_eq_true] at hok
  obtain ⟨⟨hdg, hle⟩, hj⟩ := hok
  have hdg := am_dc_e hdg
  have hj := am_jmp hj
  have hle := Nat.eq_of_beq_eq_true hle
  subst hle
  intro G p l e R s m args below meth c H locs cells slots Q ls C h1 h2 h3 h4 h5 h6 h7 h8 h9 hr
  cases c'
  · exact lv_if_eq C.1 C.2.1 hdg hj (fun z => by exact (hA z) G p l e R s m args below meth c H locs cells slots Q ls C h1 h2 h3 h4 h5 (am_tl h6) h7 h8 h9 hr) (fun z => by exact (hB z) G p l e R s m args below meth c H locs cells slots Q ls C h1 h2 h3 h4 h5 (am_tl h6) h7 h8 h9 hr)
  · exact lv_if_ne C.1 C.2.1 hdg hj (fun z => by exact (hA z) G p l e R s m args below meth c H locs cells slots Q ls C h1 h2 h3 h4 h5 (am_tl h6) h7 h8 h9 hr) (fun z => by exact (hB (fun q => q z)) G p l e R s m args below meth c H locs cells slots Q ls C h1 h2 h3 h4 h5 (am_tl h6) h7 h8 h9 hr)
  · exact lv_if_lt C.1 C.2.1 hdg hj (fun z => by exact (hA z) G p l e R s m args below meth c H locs cells slots Q ls C h1 h2 h3 h4 h5 (am_tl h6) h7 h8 h9 hr) (fun z => by exact (hB z) G p l e R s m args below meth c H locs cells slots Q ls C h1 h2 h3 h4 h5 (am_tl h6) h7 h8 h9 hr)
  · exact lv_if_ge C.1 C.2.1 hdg hj (fun z => by exact (hA z) G p l e R s m args below meth c H locs cells slots Q ls C h1 h2 h3 h4 h5 (am_tl h6) h7 h8 h9 hr) (fun z => by exact (hB z) G p l e R s m args below meth c H locs cells slots Q ls C h1 h2 h3 h4 h5 (am_tl h6) h7 h8 h9 hr)
  · exact lv_if_gt C.1 C.2.1 hdg hj (fun z => by exact (hA z) G p l e R s m args below meth c H locs cells slots Q ls C h1 h2 h3 h4 h5 (am_tl h6) h7 h8 h9 hr) (fun z => by exact (hB z) G p l e R s m args below meth c H locs cells slots Q ls C h1 h2 h3 h4 h5 (am_tl h6) h7 h8 h9 hr)
  · exact lv_if_le C.1 C.2.1 hdg hj (fun z => by exact (hA z) G p l e R s m args below meth c H locs cells slots Q ls C h1 h2 h3 h4 h5 (am_tl h6) h7 h8 h9 hr) (fun z => by exact (hB z) G p l e R s m args below meth c H locs cells slots Q ls C h1 h2 h3 h4 h5 (am_tl h6) h7 h8 h9 hr)

theorem am_g_if_icmp {c' : ClassFile.Cond} {off : Int} (hok : am_okb P NM (P mi) (pc, .if_icmp c' off, len, ix, wp) = true) (h : am_p2i st (fun x y r => (am_cmp c' x y → am_T P d mi (am_j pc off) lv r σ cb sb Post) ∧ (¬ am_cmp c' x y → am_T P d mi (pc + len) lv r σ cb sb Post))) : am_T P d mi pc lv st σ cb sb Post := by
  obtain ⟨x, y, r, rfl, hA, hB⟩ := am_p2i_e h
  simp only [am_okb, Bool.and_eq_true] at hok
  obtain ⟨⟨hdg, hle⟩, hj⟩ := hok
  have hdg := am_dc_e hdg
  have hj := am_jmp hj
  have hle := Nat.eq_of_beq_eq_true hle
  subst hle
  intro G p l e R s m args below meth c H locs cells slots Q ls C h1 h2 h3 h4 h5 h6 h7 h8 h9 hr
  cases c'
  · exact lv_icmp_eq C.1 C.2.1 hdg hj (fun z => by exact (hA z) G p l e R s m args below meth c H locs cells slots Q ls C h1 h2 h3 h4 h5 (am_tl (am_tl h6)) h7 h8 h9 hr) (fun z => by exact (hB z) G p l e R s m args below meth c H locs cells slots Q ls C h1 h2 h3 h4 h5 (am_tl (am_tl h6)) h7 h8 h9 hr)
  · exact lv_icmp_ne C.1 C.2.1 hdg hj (fun z => by exact (hA z) G p l e R s m args below meth c H locs cells slots Q ls C h1 h2 h3 h4 h5 (am_tl (am_tl h6)) h7 h8 h9 hr) (fun z => by exact (hB (fun q => q z)) G p l e R s m args below meth c H locs cells slots Q ls C h1 h2 h3 h4 h5 (am_tl (am_tl h6)) h7 h8 h9 hr)
  · exact lv_icmp_lt C.1 C.2.1 hdg hj (fun z => by exact (hA z) G p l e R s m args below meth c H locs cells slots Q ls C h1 h2 h3 h4 h5 (am_tl (am_tl h6)) h7 h8 h9 hr) (fun z => by exact (hB z) G p l e R s m args below meth c H locs cells slots Q ls C h1 h2 h3 h4 h5 (am_tl (am_tl h6)) h7 h8 h9 hr)
  · exact lv_icmp_ge C.1 C.2.1 hdg hj (fun z => by exact (hA z) G p l e R s m args below meth c H locs cells slots Q ls C h1 h2 h3 h4 h5 (am_tl (am_tl h6)) h7 h8 h9 hr) (fun z => by exact (hB z) G p l e R s m args below meth c H locs cells slots Q ls C h1 h2 h3 h4 h5 (am_tl (am_tl h6)) h7 h8 h9 hr)
  · exact lv_icmp_gt C.1 C.2.1 hdg hj (fun z => by exact (hA z) G p l e R s m args below meth c H locs cells slots Q ls C h1 h2 h3 h4 h5 (am_tl (am_tl h6)) h7 h8 h9 hr) (fun z => by exact (hB z) G p l e R s m args below meth c H locs cells slots Q ls C h1 h2 h3 h4 h5 (am_tl (am_tl h6)) h7 h8 h9 hr)
  · exact lv_icmp_le C.1 C.2.1 hdg hj (fun z => by exact (hA z) G p l e R s m args below meth c H locs cells slots Q ls C h1 h2 h3 h4 h5 (am_tl (am_tl h6)) h7 h8 h9 hr) (fun z => by exact (hB z) G p l e R s m args below meth c H locs cells slots Q ls C h1 h2 h3 h4 h5 (am_tl (am_tl h6)) h7 h8 h9 hr)

theorem am_g_goto {off : Int} (hok : am_okb P NM (P mi) (pc, .goto off, len, ix, wp) = true) (h : am_T P d mi (am_j pc off) lv st σ cb sb Post) : am_T P d mi pc lv st σ cb sb Post := by
  simp only [am_okb, Bool.and_eq_true] at hok
  obtain ⟨⟨hdg, hle⟩, hj⟩ := hok
  have hdg := am_dc_e hdg
  have hj := am_jmp hj
  have hle := Nat.eq_of_beq_eq_true hle
  subst hle
  intro G p l e R s m args below meth c H locs cells slots Q ls C h1 h2 h3 h4 h5 h6 h7 h8 h9 hr
  exact lv_goto C.1 C.2.1 hdg hj (by exact h G p l e R s m args below meth c H locs cells slots Q ls C h1 h2 h3 h4 h5 h6 h7 h8 h9 hr)
end AMG
