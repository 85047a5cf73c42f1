/-! texts: the JDK's own length() and charAt() over the text constants -/
abbrev xb_coder : ByteArray := prog_16_method_152_code
def xy_coder : MethodName := ⟨"java/lang/String", "coder", "()B"⟩
theorem xd_coder_0 : decode xb_coder 0 = .ok (.getstatic 38, 3) := by decide +kernel
theorem xd_coder_3 : decode xb_coder 3 = .ok (.ifCond .eq 10, 3) := by decide +kernel
theorem xd_coder_6 : decode xb_coder 6 = .ok (.aload_n 0, 1) := by decide +kernel
theorem xd_coder_7 : decode xb_coder 7 = .ok (.getfield 15, 3) := by decide +kernel
theorem xd_coder_10 : decode xb_coder 10 = .ok (.goto 4, 3) := by decide +kernel
theorem xd_coder_13 : decode xb_coder 13 = .ok (.iconst 1, 1) := by decide +kernel
theorem xd_coder_14 : decode xb_coder 14 = .ok (.ireturn, 1) := by decide +kernel
theorem xc_coder : Cond.code xy_coder xb_coder 1 (some .byte) ∈ am_wg := List.mem_filter.mpr ⟨am_tb3 (List.mem_of_getElem? (i := 2) rfl), rfl⟩
abbrev xb_isl : ByteArray := prog_16_method_154_code
def xy_isl : MethodName := ⟨"java/lang/String", "isLatin1", "()Z"⟩
theorem xd_isl_0 : decode xb_isl 0 = .ok (.getstatic 38, 3) := by decide +kernel
theorem xd_isl_3 : decode xb_isl 3 = .ok (.ifCond .eq 14, 3) := by decide +kernel
theorem xd_isl_6 : decode xb_isl 6 = .ok (.aload_n 0, 1) := by decide +kernel
theorem xd_isl_7 : decode xb_isl 7 = .ok (.getfield 15, 3) := by decide +kernel
theorem xd_isl_10 : decode xb_isl 10 = .ok (.ifCond .ne 7, 3) := by decide +kernel
theorem xd_isl_13 : decode xb_isl 13 = .ok (.iconst 1, 1) := by decide +kernel
theorem xd_isl_14 : decode xb_isl 14 = .ok (.goto 4, 3) := by decide +kernel
theorem xd_isl_17 : decode xb_isl 17 = .ok (.iconst 0, 1) := by decide +kernel
theorem xd_isl_18 : decode xb_isl 18 = .ok (.ireturn, 1) := by decide +kernel
theorem xc_isl : Cond.code xy_isl xb_isl 1 (some .boolean) ∈ am_wg := List.mem_filter.mpr ⟨am_tb3 (List.mem_of_getElem? (i := 12) rfl), rfl⟩
abbrev xb_len : ByteArray := prog_16_method_54_code
def xy_len : MethodName := ⟨"java/lang/String", "length", "()I"⟩
theorem xd_len_0 : decode xb_len 0 = .ok (.aload_n 0, 1) := by decide +kernel
theorem xd_len_1 : decode xb_len 1 = .ok (.getfield 9, 3) := by decide +kernel
theorem xd_len_4 : decode xb_len 4 = .ok (.arraylength, 1) := by decide +kernel
theorem xd_len_5 : decode xb_len 5 = .ok (.aload_n 0, 1) := by decide +kernel
theorem xd_len_6 : decode xb_len 6 = .ok (.invokevirtual 335, 3) := by decide +kernel
theorem xd_len_9 : decode xb_len 9 = .ok (.ishr, 1) := by decide +kernel
theorem xd_len_10 : decode xb_len 10 = .ok (.ireturn, 1) := by decide +kernel
theorem xc_len : Cond.code xy_len xb_len 1 (some .int) ∈ am_wg := List.mem_filter.mpr ⟨am_tb2 (List.mem_of_getElem? (i := 238) rfl), rfl⟩
abbrev xb_pci : ByteArray := prog_21_method_11_code
def xy_pci : MethodName := ⟨"jdk/internal/util/Preconditions", "checkIndex", "(IILjava/util/function/BiFunction;)I"⟩
theorem xd_pci_0 : decode xb_pci 0 = .ok (.iload_n 0, 1) := by decide +kernel
theorem xd_pci_1 : decode xb_pci 1 = .ok (.ifCond .lt 8, 3) := by decide +kernel
theorem xd_pci_4 : decode xb_pci 4 = .ok (.iload_n 0, 1) := by decide +kernel
theorem xd_pci_5 : decode xb_pci 5 = .ok (.iload_n 1, 1) := by decide +kernel
theorem xd_pci_6 : decode xb_pci 6 = .ok (.if_icmp .lt 10, 3) := by decide +kernel
theorem xd_pci_9 : decode xb_pci 9 = .ok (.aload_n 2, 1) := by decide +kernel
theorem xd_pci_10 : decode xb_pci 10 = .ok (.iload_n 0, 1) := by decide +kernel
theorem xd_pci_11 : decode xb_pci 11 = .ok (.iload_n 1, 1) := by decide +kernel
theorem xd_pci_12 : decode xb_pci 12 = .ok (.invokestatic 95, 3) := by decide +kernel
theorem xd_pci_15 : decode xb_pci 15 = .ok (.athrow, 1) := by decide +kernel
theorem xd_pci_16 : decode xb_pci 16 = .ok (.iload_n 0, 1) := by decide +kernel
theorem xd_pci_17 : decode xb_pci 17 = .ok (.ireturn, 1) := by decide +kernel
theorem xc_pci : Cond.code xy_pci xb_pci 3 (some .int) ∈ am_wg := List.mem_filter.mpr ⟨am_tb3 (List.mem_of_getElem? (i := 23) rfl), rfl⟩
abbrev xb_sci : ByteArray := prog_16_method_155_code
def xy_sci : MethodName := ⟨"java/lang/String", "checkIndex", "(II)V"⟩
theorem xd_sci_0 : decode xb_sci 0 = .ok (.iload_n 0, 1) := by decide +kernel
theorem xd_sci_1 : decode xb_sci 1 = .ok (.iload_n 1, 1) := by decide +kernel
theorem xd_sci_2 : decode xb_sci 2 = .ok (.getstatic 1053, 3) := by decide +kernel
theorem xd_sci_5 : decode xb_sci 5 = .ok (.invokestatic 1059, 3) := by decide +kernel
theorem xd_sci_8 : decode xb_sci 8 = .ok (.pop, 1) := by decide +kernel
theorem xd_sci_9 : decode xb_sci 9 = .ok (.return_, 1) := by decide +kernel
theorem xc_sci : Cond.code xy_sci xb_sci 2 none ∈ am_wg := List.mem_filter.mpr ⟨am_tb3 (List.mem_of_getElem? (i := 18) rfl), rfl⟩
abbrev xb_lca : ByteArray := prog_17_method_2_code
def xy_lca : MethodName := ⟨"java/lang/StringLatin1", "charAt", "([BI)C"⟩
theorem xd_lca_0 : decode xb_lca 0 = .ok (.iload_n 1, 1) := by decide +kernel
theorem xd_lca_1 : decode xb_lca 1 = .ok (.aload_n 0, 1) := by decide +kernel
theorem xd_lca_2 : decode xb_lca 2 = .ok (.arraylength, 1) := by decide +kernel
theorem xd_lca_3 : decode xb_lca 3 = .ok (.invokestatic 9, 3) := by decide +kernel
theorem xd_lca_6 : decode xb_lca 6 = .ok (.aload_n 0, 1) := by decide +kernel
theorem xd_lca_7 : decode xb_lca 7 = .ok (.iload_n 1, 1) := by decide +kernel
theorem xd_lca_8 : decode xb_lca 8 = .ok (.baload, 1) := by decide +kernel
theorem xd_lca_9 : decode xb_lca 9 = .ok (.sipush 255, 3) := by decide +kernel
theorem xd_lca_12 : decode xb_lca 12 = .ok (.iand, 1) := by decide +kernel
theorem xd_lca_13 : decode xb_lca 13 = .ok (.i2c, 1) := by decide +kernel
theorem xd_lca_14 : decode xb_lca 14 = .ok (.ireturn, 1) := by decide +kernel
theorem xc_lca : Cond.code xy_lca xb_lca 2 (some .char) ∈ am_wg := List.mem_filter.mpr ⟨am_tb3 (List.mem_of_getElem? (i := 15) rfl), rfl⟩
abbrev xb_cat : ByteArray := prog_16_method_56_code
def xy_cat : MethodName := ⟨"java/lang/String", "charAt", "(I)C"⟩
theorem xd_cat_0 : decode xb_cat 0 = .ok (.aload_n 0, 1) := by decide +kernel
theorem xd_cat_1 : decode xb_cat 1 = .ok (.invokevirtual 492, 3) := by decide +kernel
theorem xd_cat_4 : decode xb_cat 4 = .ok (.ifCond .eq 12, 3) := by decide +kernel
theorem xd_cat_7 : decode xb_cat 7 = .ok (.aload_n 0, 1) := by decide +kernel
theorem xd_cat_8 : decode xb_cat 8 = .ok (.getfield 9, 3) := by decide +kernel
theorem xd_cat_11 : decode xb_cat 11 = .ok (.iload_n 1, 1) := by decide +kernel
theorem xd_cat_12 : decode xb_cat 12 = .ok (.invokestatic 495, 3) := by decide +kernel
theorem xd_cat_15 : decode xb_cat 15 = .ok (.ireturn, 1) := by decide +kernel
theorem xd_cat_16 : decode xb_cat 16 = .ok (.aload_n 0, 1) := by decide +kernel
theorem xd_cat_17 : decode xb_cat 17 = .ok (.getfield 9, 3) := by decide +kernel
theorem xd_cat_20 : decode xb_cat 20 = .ok (.iload_n 1, 1) := by decide +kernel
theorem xd_cat_21 : decode xb_cat 21 = .ok (.invokestatic 498, 3) := by decide +kernel
theorem xd_cat_24 : decode xb_cat 24 = .ok (.ireturn, 1) := by decide +kernel
theorem xc_cat : Cond.code xy_cat xb_cat 2 (some .char) ∈ am_wg := List.mem_filter.mpr ⟨am_tb3 (List.mem_of_getElem? (i := 8) rfl), rfl⟩
theorem xw_cs : Cond.fieldLink "java/lang/String" 38 "java/lang/String" "COMPACT_STRINGS" "Z" ∈ am_wg := am_wgi 651 (by decide +kernel) rfl
theorem xw_co : Cond.fieldLink "java/lang/String" 15 "java/lang/String" "coder" "B" ∈ am_wg := am_wgi 2154 (by decide +kernel) rfl
theorem xw_va : Cond.fieldLink "java/lang/String" 9 "java/lang/String" "value" "[B" ∈ am_wg := am_wgi 2153 (by decide +kernel) rfl
theorem xw_sf : Cond.fieldLink "java/lang/String" 1053 "jdk/internal/util/Preconditions" "SIOOBE_FORMATTER" "Ljava/util/function/BiFunction;" ∈ am_wg := am_wgi 667 (by decide +kernel) rfl
theorem xw_l_coder : Cond.methodLink "java/lang/String" 335 xy_coder ∈ am_wg := am_wgi 647 (by decide +kernel) rfl
theorem xw_i_coder : Cond.instanceMethod xy_coder ∈ am_wg := am_wgi 648 (by decide +kernel) rfl
theorem xw_s_coder : Cond.selects "java/lang/String" xy_coder xy_coder ∈ am_wg := am_wgi 649 (by decide +kernel) rfl
theorem xw_l_isl : Cond.methodLink "java/lang/String" 492 xy_isl ∈ am_wg := am_wgi 657 (by decide +kernel) rfl
theorem xw_i_isl : Cond.instanceMethod xy_isl ∈ am_wg := am_wgi 658 (by decide +kernel) rfl
theorem xw_s_isl : Cond.selects "java/lang/String" xy_isl xy_isl ∈ am_wg := am_wgi 659 (by decide +kernel) rfl
theorem xw_l_pci : Cond.methodLink "java/lang/String" 1059 xy_pci ∈ am_wg := am_wgi 669 (by decide +kernel) rfl
theorem xw_i_pci : Cond.static xy_pci ∈ am_wg := am_wgi 670 (by decide +kernel) rfl
theorem xw_l_sci : Cond.methodLink "java/lang/StringLatin1" 9 xy_sci ∈ am_wg := am_wgi 664 (by decide +kernel) rfl
theorem xw_i_sci : Cond.static xy_sci ∈ am_wg := am_wgi 665 (by decide +kernel) rfl
theorem xw_l_lca : Cond.methodLink "java/lang/String" 495 xy_lca ∈ am_wg := am_wgi 661 (by decide +kernel) rfl
theorem xw_i_lca : Cond.static xy_lca ∈ am_wg := am_wgi 662 (by decide +kernel) rfl
theorem xw_i_len : Cond.instanceMethod xy_len ∈ am_wg := am_wgi 644 (by decide +kernel) rfl
theorem xw_s_len : Cond.selects "java/lang/String" xy_len xy_len ∈ am_wg := am_wgi 645 (by decide +kernel) rfl
theorem xw_i_cat : Cond.instanceMethod xy_cat ∈ am_wg := am_wgi 654 (by decide +kernel) rfl
theorem xw_s_cat : Cond.selects "java/lang/String" xy_cat xy_cat ∈ am_wg := am_wgi 655 (by decide +kernel) rfl
theorem xw_nS : Cond.initialized "java/lang/String" ∈ am_wg := am_wgi 182 (by decide +kernel) rfl
theorem xw_nL : Cond.initialized "java/lang/StringLatin1" ∈ am_wg := am_wgi 183 (by decide +kernel) rfl
theorem xw_nP : Cond.initialized "jdk/internal/util/Preconditions" ∈ am_wg := am_wgi 184 (by decide +kernel) rfl
def am_Pp (G : am_G) (as : List Value) : Array Value → State → Prop := fun v U => v = as.toArray ∧ am_Tx G U U.heap
def am_Qp (r : Option Value) : Array Value → State → Outcome → State → Prop := fun _ st oc t => oc = .returned r ∧ t.heap = st.heap
theorem am_Tx_warm {G : am_G} {s U : State} {H0 H : Heap} {locs : List Loc} (hW : s.vm.Alike U.vm) (hS : va_S (am_A G) H0 H locs) (h : am_Tx G s H0) : am_Tx G U H :=
  ⟨(h.1.moved hW).kept hS.2.1, (h.2.1.moved hW).kept hS.2.1, (h.2.2.moved hW).kept hS.2.1⟩
theorem am_pblind (G : am_G) (as : List Value) : FrameBlind (am_Pp G as) := fun a U g mk q => ⟨q.1, am_Tx_warm (s := U) (U := U.calling g mk a) (Vm.Alike.refl U.vm) va_S.rf q.2⟩
section AMX
variable {p : Program} {l : Launch} {e : Env} {R : Room} {s : State} {m : MethodId} {args : Array Value} {below : List Frame} {meth : Method} {c : Code} {H : Heap} {locs : List Loc} {cells slots : Nat} {Q : State → Prop} {pc : Nat} {ls : Array Slot} {st0 rest : List Value} {a : Array Value} {r : Option Value}
theorem am_pback (hrun : va_Run p l e R s m args below meth c H locs cells slots 0 0 (F0 m pc ls st0) rest (am_Qp r a) (fun _ => False)) (kk : W p l e R s m args below meth c H locs cells slots Q (F0 m (pc + 3) ls (r.toList ++ rest))) : W p l e R s m args below meth c H locs cells slots Q (F0 m pc ls st0) := by
  intro T hT X
  obtain ⟨v, st₀, t, T', L, e0, X', hL, e1, -, ⟨ev, eh⟩, step⟩ := hrun T hT X
  cases ev
  have hL0 : L = [] := by
    cases L with
    | nil => rfl
    | cons q L => exact (hL q List.mem_cons_self).elim
  subst hL0
  rw [List.append_nil] at X'
  obtain ⟨t2, a1, b1⟩ := kk T' (by rw [e1, eh, e0]) X'
  exact ⟨t2, step t2 a1, b1⟩
end AMX
theorem am_xg {y : MethodName} {b : ByteArray} {ml : Nat} {ret : Option FieldType} (h : Cond.code y b ml ret ∈ am_wg) : GoodIn am_wg (.code y b ml ret :: am_wg) := am_gw (fun w hw => (List.mem_cons.mp hw).elim (fun q => q ▸ h) id)
abbrev am_rm (d : Nat) : Room := { frames := d, cells := 0, slots := 0, locals := 200 * d }
theorem xm_coder (l : Launch) (G : am_G) (j : Nat) (hj : j < 8) : Met l xy_coder (.code xy_coder xb_coder 1 (some .byte) :: am_wg) (am_rm 1) (am_Pp G [.ref (am_ga G (1 + j))]) (am_Qp (some (.int 0))) 0 0 (fun _ => False) := by
  refine Met.ofW (cc := xb_coder) (maxL := 1) (ret := (some .byte)) (by decide) rfl ?_
  intro p e s m args below meth c s₁ B hml hv
  obtain ⟨rfl, hT⟩ := hv
  obtain ⟨hS, hZ, hQ⟩ := id hT
  have hx := B.exec
  have hb := B.bytes
  have hlocks := B.notSynchronized
  have hts0 := atoms_spec (ws := .code xy_coder xb_coder 1 (some .byte) :: am_wg) B.pre
  have hts : ∀ w ∈ am_wg, w.before ([.ref (am_ga G (1 + j))]).toArray s = true := fun w hw => hts0 w (List.mem_cons_of_mem _ hw)
  have hown : s.vm.findClass xy_coder.cls = some m.cls := findClass_of_methodNamed B.named
  have hl := lv_entry [.ref (am_ga G (1 + j))] (n := 1) (Nat.le_of_ble_eq_true rfl)
  rw [lg_entry_eq]
  generalize (lg_sl [.ref (am_ga G (1 + j))] ++ List.replicate (1 - (lg_sl [.ref (am_ga G (1 + j))]).length) Slot.unset).toArray = ls at hl ⊢
  have hV : va_S (am_A G) s.heap s.heap [] := va_S.rf
  have S : CallFix p m c xb_coder 1 s ([.ref (am_ga G (1 + j))]).toArray am_wg xy_coder.cls := ⟨hx, hb, hml, hown, hts⟩
  refine va_gets hx hb hZ hV hown (hts _ xw_cs) (fun x h => h) xd_coder_0 ?_
  refine lv_if_eq (tgt := 13) hx hb xd_coder_3 (by decide) (fun q => absurd q (by decide)) (fun _ => ?_)
  refine lv_aload_n hx hb xd_coder_6 rfl (lv_at hl 0 rfl) ?_
  refine vk_getf hx hb (hS.1 j hj).2.1 hV hown (hts _ xw_co) (fun x h => h) xd_coder_7 ?_
  refine lv_goto (tgt := 14) hx hb xd_coder_10 (by decide) ?_
  exact W.zret hx hb B.returns rfl (fun t ht _ => ⟨rfl, ht⟩) (fun q hq => by cases hq) xd_coder_14
theorem xm_isl (l : Launch) (G : am_G) (j : Nat) (hj : j < 8) : Met l xy_isl (.code xy_isl xb_isl 1 (some .boolean) :: am_wg) (am_rm 1) (am_Pp G [.ref (am_ga G (1 + j))]) (am_Qp (some (.int 1))) 0 0 (fun _ => False) := by
  refine Met.ofW (cc := xb_isl) (maxL := 1) (ret := (some .boolean)) (by decide) rfl ?_
  intro p e s m args below meth c s₁ B hml hv
  obtain ⟨rfl, hT⟩ := hv
  obtain ⟨hS, hZ, hQ⟩ := id hT
  have hx := B.exec
  have hb := B.bytes
  have hlocks := B.notSynchronized
  have hts0 := atoms_spec (ws := .code xy_isl xb_isl 1 (some .boolean) :: am_wg) B.pre
  have hts : ∀ w ∈ am_wg, w.before ([.ref (am_ga G (1 + j))]).toArray s = true := fun w hw => hts0 w (List.mem_cons_of_mem _ hw)
  have hown : s.vm.findClass xy_isl.cls = some m.cls := findClass_of_methodNamed B.named
  have hl := lv_entry [.ref (am_ga G (1 + j))] (n := 1) (Nat.le_of_ble_eq_true rfl)
  rw [lg_entry_eq]
  generalize (lg_sl [.ref (am_ga G (1 + j))] ++ List.replicate (1 - (lg_sl [.ref (am_ga G (1 + j))]).length) Slot.unset).toArray = ls at hl ⊢
  have hV : va_S (am_A G) s.heap s.heap [] := va_S.rf
  have S : CallFix p m c xb_isl 1 s ([.ref (am_ga G (1 + j))]).toArray am_wg xy_isl.cls := ⟨hx, hb, hml, hown, hts⟩
  refine va_gets hx hb hZ hV hown (hts _ xw_cs) (fun x h => h) xd_isl_0 ?_
  refine lv_if_eq (tgt := 17) hx hb xd_isl_3 (by decide) (fun q => absurd q (by decide)) (fun _ => ?_)
  refine lv_aload_n hx hb xd_isl_6 rfl (lv_at hl 0 rfl) ?_
  refine vk_getf hx hb (hS.1 j hj).2.1 hV hown (hts _ xw_co) (fun x h => h) xd_isl_7 ?_
  refine lv_if_ne (tgt := 17) hx hb xd_isl_10 (by decide) (fun q => absurd rfl q) (fun _ => ?_)
  refine lv_iconst (v := 1) hx hb xd_isl_13 (by decide) ?_
  refine lv_goto (tgt := 18) hx hb xd_isl_14 (by decide) ?_
  exact W.zret hx hb B.returns rfl (fun t ht _ => ⟨rfl, ht⟩) (fun q hq => by cases hq) xd_isl_18
theorem xm_len (l : Launch) (G : am_G) (j : Nat) (hj : j < 8) : Met l xy_len (.code xy_len xb_len 1 (some .int) :: am_wg) (am_rm 2) (am_Pp G [.ref (am_ga G (1 + j))]) (am_Qp (some (.int (Int32.ofNat (am_xl.getD j 0))))) 0 0 (fun _ => False) := by
  refine Met.ofW (cc := xb_len) (maxL := 1) (ret := (some .int)) (by decide) rfl ?_
  intro p e s m args below meth c s₁ B hml hv
  obtain ⟨rfl, hT⟩ := hv
  obtain ⟨hS, hZ, hQ⟩ := id hT
  have hx := B.exec
  have hb := B.bytes
  have hlocks := B.notSynchronized
  have hts0 := atoms_spec (ws := .code xy_len xb_len 1 (some .int) :: am_wg) B.pre
  have hts : ∀ w ∈ am_wg, w.before ([.ref (am_ga G (1 + j))]).toArray s = true := fun w hw => hts0 w (List.mem_cons_of_mem _ hw)
  have hown : s.vm.findClass xy_len.cls = some m.cls := findClass_of_methodNamed B.named
  have hl := lv_entry [.ref (am_ga G (1 + j))] (n := 1) (Nat.le_of_ble_eq_true rfl)
  rw [lg_entry_eq]
  generalize (lg_sl [.ref (am_ga G (1 + j))] ++ List.replicate (1 - (lg_sl [.ref (am_ga G (1 + j))]).length) Slot.unset).toArray = ls at hl ⊢
  have hV : va_S (am_A G) s.heap s.heap [] := va_S.rf
  have S : CallFix p m c xb_len 1 s ([.ref (am_ga G (1 + j))]).toArray am_wg xy_len.cls := ⟨hx, hb, hml, hown, hts⟩
  refine lv_aload_n hx hb xd_len_0 rfl (lv_at hl 0 rfl) ?_
  refine vk_getf hx hb (hS.1 j hj).2.2.1 hV hown (hts _ xw_va) (fun x h => h) xd_len_1 ?_
  refine va_tlen hx hb (hS.1 j hj).2.2.2 hV rfl xd_len_4 ?_
  refine lv_aload_n hx hb xd_len_5 rfl (lv_at hl 0 rfl) ?_
  refine am_pback (va_runV (As := []) (rest := [.int (Int32.ofNat (am_xl.getD j 0))]) S (xm_coder l G j hj) (cwV 0 hts (am_gw (by
    intro w hw
    simp only [wsV, List.mem_append, List.mem_cons, List.not_mem_nil, or_false] at hw
    rcases hw with (rfl | rfl | rfl | rfl) | rfl | hw
    · exact xw_l_coder
    · exact xw_i_coder
    · exact xw_s_coder
    · exact xw_nS
    · exact xc_coder
    · exact hw)) rfl rfl rfl (by decide +kernel) ⟨Nat.le_of_ble_eq_true rfl, Nat.le_of_ble_eq_true rfl⟩) ⟨am_pblind G _, vk_recv hS hj hV, fun U hU hW => ⟨rfl, by rw [hU]; exact am_Tx_warm hW.alike hV hT⟩⟩ rfl rfl hl.1 rfl (lv_room (Nat.le_of_ble_eq_true rfl)) xd_len_6 ⟨Nat.le_of_ble_eq_true rfl, Nat.le_of_ble_eq_true rfl⟩) ?_
  refine lv_ishr hx hb xd_len_9 ?_
  have e1 : Int32.ofNat (am_xl.getD j 0) >>> ((0 : Int32) &&& 31) = Int32.ofNat (am_xl.getD j 0) := sb_shr0 _
  rw [e1]
  exact W.iret hx hb B.returns (fun t ht _ => ⟨rfl, ht⟩) (fun q hq => by cases hq) xd_len_10
theorem xm_pci (l : Launch) (G : am_G) (i n : Int32) (fm : Value) (hw : fm = .null ∨ ∃ t, fm = .ref t) (h0 : ¬ i < 0) (h1 : i < n) : Met l xy_pci (.code xy_pci xb_pci 3 (some .int) :: am_wg) (am_rm 1) (am_Pp G [.int i, .int n, fm]) (am_Qp (some (.int i))) 0 0 (fun _ => False) := by
  refine Met.ofW (cc := xb_pci) (maxL := 3) (ret := (some .int)) (by decide) rfl ?_
  intro p e s m args below meth c s₁ B hml hv
  obtain ⟨rfl, hT⟩ := hv
  obtain ⟨hS, hZ, hQ⟩ := id hT
  have hx := B.exec
  have hb := B.bytes
  have hlocks := B.notSynchronized
  have hts0 := atoms_spec (ws := .code xy_pci xb_pci 3 (some .int) :: am_wg) B.pre
  have hts : ∀ w ∈ am_wg, w.before ([.int i, .int n, fm]).toArray s = true := fun w hw => hts0 w (List.mem_cons_of_mem _ hw)
  have hown : s.vm.findClass xy_pci.cls = some m.cls := findClass_of_methodNamed B.named
  have hl := lv_entry [.int i, .int n, fm] (n := 3) (by rcases hw with rfl | ⟨t, rfl⟩ <;> exact Nat.le_of_ble_eq_true rfl)
  rw [lg_entry_eq]
  generalize (lg_sl [.int i, .int n, fm] ++ List.replicate (3 - (lg_sl [.int i, .int n, fm]).length) Slot.unset).toArray = ls at hl ⊢
  have hV : va_S (am_A G) s.heap s.heap [] := va_S.rf
  have S : CallFix p m c xb_pci 3 s ([.int i, .int n, fm]).toArray am_wg xy_pci.cls := ⟨hx, hb, hml, hown, hts⟩
  have g0 : ls[0]? = some (.val (.int i)) := lv_at hl 0 rfl
  have g1 : ls[1]? = some (.val (.int n)) := lv_at hl 1 rfl
  refine lv_iload_n hx hb xd_pci_0 rfl g0 ?_
  refine lv_if_lt (tgt := 9) hx hb xd_pci_1 (by decide) (fun q => absurd q h0) (fun _ => ?_)
  refine lv_iload_n hx hb xd_pci_4 rfl g0 ?_
  refine lv_iload_n hx hb xd_pci_5 rfl g1 ?_
  refine lv_icmp_lt (tgt := 16) hx hb xd_pci_6 (by decide) (fun _ => ?_) (fun q => absurd h1 q)
  refine lv_iload_n hx hb xd_pci_16 rfl g0 ?_
  exact W.iret hx hb B.returns (fun t ht _ => ⟨rfl, ht⟩) (fun q hq => by cases hq) xd_pci_17
theorem xm_sci (l : Launch) (G : am_G) (i n : Int32) (h0 : ¬ i < 0) (h1 : i < n) : Met l xy_sci (.code xy_sci xb_sci 2 none :: am_wg) (am_rm 2) (am_Pp G [.int i, .int n]) (am_Qp none) 0 0 (fun _ => False) := by
  refine Met.ofW (cc := xb_sci) (maxL := 2) (ret := none) (by decide) rfl ?_
  intro p e s m args below meth c s₁ B hml hv
  obtain ⟨rfl, hT⟩ := hv
  obtain ⟨hS, hZ, hQ⟩ := id hT
  have hx := B.exec
  have hb := B.bytes
  have hlocks := B.notSynchronized
  have hts0 := atoms_spec (ws := .code xy_sci xb_sci 2 none :: am_wg) B.pre
  have hts : ∀ w ∈ am_wg, w.before ([.int i, .int n]).toArray s = true := fun w hw => hts0 w (List.mem_cons_of_mem _ hw)
  have hown : s.vm.findClass xy_sci.cls = some m.cls := findClass_of_methodNamed B.named
  have hl := lv_entry [.int i, .int n] (n := 2) (Nat.le_of_ble_eq_true rfl)
  rw [lg_entry_eq]
  generalize (lg_sl [.int i, .int n] ++ List.replicate (2 - (lg_sl [.int i, .int n]).length) Slot.unset).toArray = ls at hl ⊢
  have hV : va_S (am_A G) s.heap s.heap [] := va_S.rf
  have S : CallFix p m c xb_sci 2 s ([.int i, .int n]).toArray am_wg xy_sci.cls := ⟨hx, hb, hml, hown, hts⟩
  refine lv_iload_n hx hb xd_sci_0 rfl (lv_at hl 0 rfl) ?_
  refine lv_iload_n hx hb xd_sci_1 rfl (lv_at hl 1 rfl) ?_
  obtain ⟨fm, hw, hZw⟩ : ∃ fm : Value, (fm = .null ∨ ∃ t, fm = .ref t) ∧ va_Z "jdk/internal/util/Preconditions" "SIOOBE_FORMATTER" "Ljava/util/function/BiFunction;" fm (am_A G) s s.heap := by
    rcases hQ with h | ⟨t, h⟩
    · exact ⟨.null, Or.inl rfl, h⟩
    · exact ⟨.ref t, Or.inr ⟨t, rfl⟩, h⟩
  refine va_gets hx hb hZw hV hown (hts _ xw_sf) (fun x h => h) xd_sci_2 ?_
  refine am_pback (va_runS (As := [.int i, .int n, fm]) (rest := []) S (xm_pci l G i n fm hw h0 h1) (va_cwS 3 hts (am_gw (by
    intro w hw
    simp only [va_wsS, List.mem_append, List.mem_cons, List.not_mem_nil, or_false] at hw
    rcases hw with (rfl | rfl | rfl) | rfl | hw
    · exact xw_l_pci
    · exact xw_i_pci
    · exact xw_nP
    · exact xc_pci
    · exact hw)) rfl rfl rfl (by decide +kernel) ⟨Nat.le_of_ble_eq_true rfl, Nat.le_of_ble_eq_true rfl⟩) ⟨am_pblind G _, fun U hU hW => ⟨rfl, by rw [hU]; exact am_Tx_warm hW.alike hV hT⟩⟩ rfl rfl hl.1 rfl (lv_room (Nat.le_of_ble_eq_true rfl)) xd_sci_5 ⟨Nat.le_of_ble_eq_true rfl, Nat.le_of_ble_eq_true rfl⟩) ?_
  refine lv_pop hx hb xd_sci_8 rfl ?_
  exact W.vret hx hb B.returns (fun t ht _ => ⟨rfl, ht⟩) (fun q hq => by cases hq) xd_sci_9
theorem xm_lca (l : Launch) (G : am_G) (j : Nat) (hj : j < 8) (i : Int32) (hi : vp_in i (am_xl.getD j 0)) (hlen : am_xl.getD j 0 < 2 ^ 31) : Met l xy_lca (.code xy_lca xb_lca 2 (some .char) :: am_wg) (am_rm 3) (am_Pp G [.ref (am_ga G (20 + j)), .int i]) (am_Qp (some (.int (((am_xb.getD j []).getD i.toNatClampNeg 0) &&& 255)))) 0 0 (fun _ => False) := by
  refine Met.ofW (cc := xb_lca) (maxL := 2) (ret := (some .char)) (by decide) rfl ?_
  intro p e s m args below meth c s₁ B hml hv
  obtain ⟨rfl, hT⟩ := hv
  obtain ⟨hS, hZ, hQ⟩ := id hT
  have hx := B.exec
  have hb := B.bytes
  have hlocks := B.notSynchronized
  have hts0 := atoms_spec (ws := .code xy_lca xb_lca 2 (some .char) :: am_wg) B.pre
  have hts : ∀ w ∈ am_wg, w.before ([.ref (am_ga G (20 + j)), .int i]).toArray s = true := fun w hw => hts0 w (List.mem_cons_of_mem _ hw)
  have hown : s.vm.findClass xy_lca.cls = some m.cls := findClass_of_methodNamed B.named
  have hl := lv_entry [.ref (am_ga G (20 + j)), .int i] (n := 2) (Nat.le_of_ble_eq_true rfl)
  rw [lg_entry_eq]
  generalize (lg_sl [.ref (am_ga G (20 + j)), .int i] ++ List.replicate (2 - (lg_sl [.ref (am_ga G (20 + j)), .int i]).length) Slot.unset).toArray = ls at hl ⊢
  have hV : va_S (am_A G) s.heap s.heap [] := va_S.rf
  have S : CallFix p m c xb_lca 2 s ([.ref (am_ga G (20 + j)), .int i]).toArray am_wg xy_lca.cls := ⟨hx, hb, hml, hown, hts⟩
  have h0 : ¬ i < 0 := fun q => hi (Or.inl q)
  obtain ⟨k, hk, rfl⟩ := vp_in_of hi hlen
  refine lv_iload_n hx hb xd_lca_0 rfl (lv_at hl 1 rfl) ?_
  refine lv_aload_n hx hb xd_lca_1 rfl (lv_at hl 0 rfl) ?_
  refine va_tlen hx hb (hS.1 j hj).2.2.2 hV rfl xd_lca_2 ?_
  refine am_pback (va_runS (As := [.int (nI k), .int (Int32.ofNat (am_xl.getD j 0))]) (rest := []) S (xm_sci l G (nI k) (Int32.ofNat (am_xl.getD j 0)) h0 (nI_lt hk hlen)) (va_cwS 2 hts (am_gw (by
    intro w hw
    simp only [va_wsS, List.mem_append, List.mem_cons, List.not_mem_nil, or_false] at hw
    rcases hw with (rfl | rfl | rfl) | rfl | hw
    · exact xw_l_sci
    · exact xw_i_sci
    · exact xw_nS
    · exact xc_sci
    · exact hw)) rfl rfl rfl (by decide +kernel) ⟨Nat.le_of_ble_eq_true rfl, Nat.le_of_ble_eq_true rfl⟩) ⟨am_pblind G _, fun U hU hW => ⟨rfl, by rw [hU]; exact am_Tx_warm hW.alike hV hT⟩⟩ rfl rfl hl.1 rfl (lv_room (Nat.le_of_ble_eq_true rfl)) xd_lca_3 ⟨Nat.le_of_ble_eq_true rfl, Nat.le_of_ble_eq_true rfl⟩) ?_
  refine lv_aload_n hx hb xd_lca_6 rfl (lv_at hl 0 rfl) ?_
  refine lv_iload_n hx hb xd_lca_7 rfl (lv_at hl 1 rfl) ?_
  refine va_tb hx hb (hS.1 j hj).2.2.2 hV hi rfl xd_lca_8 ?_
  refine lv_sipush (v := 255) hx hb xd_lca_9 (by decide) ?_
  refine lv_iand hx hb xd_lca_12 ?_
  refine lv_i2c hx hb xd_lca_13 rfl ?_
  rw [sc_c2]
  exact W.zret hx hb B.returns (sc_nar _) (fun t ht _ => ⟨rfl, ht⟩) (fun q hq => by cases hq) xd_lca_14
theorem xm_cat (l : Launch) (G : am_G) (j : Nat) (hj : j < 8) (i : Int32) (hi : vp_in i (am_xl.getD j 0)) (hlen : am_xl.getD j 0 < 2 ^ 31) : Met l xy_cat (.code xy_cat xb_cat 2 (some .char) :: am_wg) (am_rm 4) (am_Pp G [.ref (am_ga G (1 + j)), .int i]) (am_Qp (some (.int (((am_xb.getD j []).getD i.toNatClampNeg 0) &&& 255)))) 0 0 (fun _ => False) := by
  refine Met.ofW (cc := xb_cat) (maxL := 2) (ret := (some .char)) (by decide) rfl ?_
  intro p e s m args below meth c s₁ B hml hv
  obtain ⟨rfl, hT⟩ := hv
  obtain ⟨hS, hZ, hQ⟩ := id hT
  have hx := B.exec
  have hb := B.bytes
  have hlocks := B.notSynchronized
  have hts0 := atoms_spec (ws := .code xy_cat xb_cat 2 (some .char) :: am_wg) B.pre
  have hts : ∀ w ∈ am_wg, w.before ([.ref (am_ga G (1 + j)), .int i]).toArray s = true := fun w hw => hts0 w (List.mem_cons_of_mem _ hw)
  have hown : s.vm.findClass xy_cat.cls = some m.cls := findClass_of_methodNamed B.named
  have hl := lv_entry [.ref (am_ga G (1 + j)), .int i] (n := 2) (Nat.le_of_ble_eq_true rfl)
  rw [lg_entry_eq]
  generalize (lg_sl [.ref (am_ga G (1 + j)), .int i] ++ List.replicate (2 - (lg_sl [.ref (am_ga G (1 + j)), .int i]).length) Slot.unset).toArray = ls at hl ⊢
  have hV : va_S (am_A G) s.heap s.heap [] := va_S.rf
  have S : CallFix p m c xb_cat 2 s ([.ref (am_ga G (1 + j)), .int i]).toArray am_wg xy_cat.cls := ⟨hx, hb, hml, hown, hts⟩
  refine lv_aload_n hx hb xd_cat_0 rfl (lv_at hl 0 rfl) ?_
  refine am_pback (va_runV (As := []) (rest := []) S (xm_isl l G j hj) (cwV 0 hts (am_gw (by
    intro w hw
    simp only [wsV, List.mem_append, List.mem_cons, List.not_mem_nil, or_false] at hw
    rcases hw with (rfl | rfl | rfl | rfl) | rfl | hw
    · exact xw_l_isl
    · exact xw_i_isl
    · exact xw_s_isl
    · exact xw_nS
    · exact xc_isl
    · exact hw)) rfl rfl rfl (by decide +kernel) ⟨Nat.le_of_ble_eq_true rfl, Nat.le_of_ble_eq_true rfl⟩) ⟨am_pblind G _, vk_recv hS hj hV, fun U hU hW => ⟨rfl, by rw [hU]; exact am_Tx_warm hW.alike hV hT⟩⟩ rfl rfl hl.1 rfl (lv_room (Nat.le_of_ble_eq_true rfl)) xd_cat_1 ⟨Nat.le_of_ble_eq_true rfl, Nat.le_of_ble_eq_true rfl⟩) ?_
  refine lv_if_eq (tgt := 16) hx hb xd_cat_4 (by decide) (fun q => absurd q (by decide)) (fun _ => ?_)
  refine lv_aload_n hx hb xd_cat_7 rfl (lv_at hl 0 rfl) ?_
  refine vk_getf hx hb (hS.1 j hj).2.2.1 hV hown (hts _ xw_va) (fun x h => h) xd_cat_8 ?_
  refine lv_iload_n hx hb xd_cat_11 rfl (lv_at hl 1 rfl) ?_
  refine am_pback (va_runS (As := [.ref (am_ga G (20 + j)), .int i]) (rest := []) S (xm_lca l G j hj i hi hlen) (va_cwS 2 hts (am_gw (by
    intro w hw
    simp only [va_wsS, List.mem_append, List.mem_cons, List.not_mem_nil, or_false] at hw
    rcases hw with (rfl | rfl | rfl) | rfl | hw
    · exact xw_l_lca
    · exact xw_i_lca
    · exact xw_nL
    · exact xc_lca
    · exact hw)) rfl rfl rfl (by decide +kernel) ⟨Nat.le_of_ble_eq_true rfl, Nat.le_of_ble_eq_true rfl⟩) ⟨am_pblind G _, fun U hU hW => ⟨rfl, by rw [hU]; exact am_Tx_warm hW.alike hV hT⟩⟩ rfl rfl hl.1 rfl (lv_room (Nat.le_of_ble_eq_true rfl)) xd_cat_12 ⟨Nat.le_of_ble_eq_true rfl, Nat.le_of_ble_eq_true rfl⟩) ?_
  exact W.zret hx hb B.returns (sc_nar _) (fun t ht _ => ⟨rfl, ht⟩) (fun q hq => by cases hq) xd_cat_15
