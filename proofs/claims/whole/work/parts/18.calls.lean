/-! CALLS: a method's contract on the real machine, out of am_C -/
theorem am_gw {X : List Cond} (h : ∀ w ∈ X, w ∈ am_wg) : GoodIn am_wg X := fun w hw => ⟨h w hw, good_of_word (List.mem_filter.mp (h w hw)).2⟩
theorem am_okm_e {M : am_MI} {wi ws wl : Nat} (h : am_cwP M ∧ am_okm M wi ws wl = true) : Cond.code (am_my M) (am_mb M) (am_ml M) (am_mr M) ∈ am_wg ∧ Cond.initialized (am_my M).cls ∈ am_wg ∧ plainName (am_my M).cls = true ∧ ((am_my M).cls ≠ "java/lang/invoke/MethodHandle" ∧ (am_my M).cls ≠ "java/lang/invoke/VarHandle" ∧ (parseMethodDescriptor (am_my M).desc).map (fun d => d.parameters.length) = some (am_ma M)) ∧ am_ml M ≤ 20 ∧ (am_mc M = 50 → Cond.static (am_my M) ∈ am_wg) ∧ (am_mc M ≠ 50 → Cond.instanceMethod (am_my M) ∈ am_wg ∧ am_mc M < 12 ∧ am_cn (am_mc M) = (am_my M).cls ∧ ((am_my M).name = "<init>" ∨ Cond.selects (am_my M).cls (am_my M) (am_my M) ∈ am_wg)) := by
  obtain ⟨a1, h⟩ := h
  simp only [am_okm, Bool.and_eq_true] at h
  obtain ⟨⟨⟨⟨a2, a3⟩, a4⟩, a5⟩, a6⟩ := h
  refine ⟨List.mem_filter.mpr ⟨a1, rfl⟩, am_wd_g a2 rfl, a3, of_decide_eq_true a4, Nat.le_of_ble_eq_true a5, fun q => ?_, fun q => ?_⟩
  · have : Nat.beq (am_mc M) 50 = true := by rw [q]; rfl
    rw [this] at a6
    exact am_wd_g a6 rfl
  · have : Nat.beq (am_mc M) 50 = false := by
      cases hq : Nat.beq (am_mc M) 50 with
      | true => exact absurd (Nat.eq_of_beq_eq_true hq) q
      | false => rfl
    rw [this] at a6
    simp only [Bool.and_eq_true, Bool.or_eq_true] at a6
    obtain ⟨⟨⟨b1, b2⟩, b3⟩, b4⟩ := a6
    exact ⟨am_wd_g b1 rfl, Nat.le_of_ble_eq_true b2, of_decide_eq_true b3, b4.imp of_decide_eq_true (fun z => am_wd_g z rfl)⟩
theorem am_yl_e {own : String} {wp ix : Nat} {y : MethodName} (h : am_yl own wp ix y = true) : Cond.methodLink own ix y ∈ am_wg ∨ ∃ host, Cond.methodLinkNest own ix y host ∈ am_wn := by
  unfold am_yl at h
  split at h
  · rename_i hw
    obtain ⟨rfl, rfl, rfl⟩ := of_decide_eq_true h
    exact Or.inl (List.mem_filter.mpr ⟨List.mem_of_getElem? hw, rfl⟩)
  · rename_i hw
    obtain ⟨rfl, rfl, rfl⟩ := of_decide_eq_true h
    exact Or.inr ⟨_, List.mem_filter.mpr ⟨List.mem_of_getElem? hw, rfl⟩⟩
  · cases h
theorem am_nsw {w : Cond} (h : w ∈ am_wn) : w.onTables = true := by
  have h := (List.mem_filter.mp h).2
  cases w <;> first | rfl | cases h
theorem am_nsW {w : Cond} (h : w ∈ am_wn) {s U : State} (hW : s.WarmedH U.vm) (hZ : va_Nw w s) : va_Nw w U := by
  have h := (List.mem_filter.mp h).2
  cases w <;> first | exact va_Nw.warmF hW hZ | exact va_Nw.warmM hW hZ | cases h
theorem am_aoA {args : Array Value} {s : State} (h : (Cond.arrayOver (.array .int)).before args s = true) : ∃ (comp c : ClassId) (k : Class), s.vm.findClass (FieldType.array .int).toString = some comp ∧ (s.vm.classes.findIdx? fun (x : Class) => match x.kind with | .array component _ => component == comp | _ => false) = some c ∧ s.vm.classes[c]? = some k ∧ k.kind = .array comp (.array .int) ∧ s.vm.findClass ("[" ++ (FieldType.array .int).toString) = some c := by
  unfold Cond.before at h
  simp only [Cond.holds, Cond.value, beq_iff_eq] at h
  cases hc : s.vm.findClass (FieldType.array .int).toString with
  | none => simp [hc] at h
  | some comp =>
    simp only [hc, Option.bind_some, Option.bind_eq_some_iff, Option.map_eq_some_iff] at h
    obtain ⟨c, hi, k, hk, hb⟩ := h
    obtain ⟨hlt, hp, -⟩ := Array.findIdx?_eq_some_iff_getElem.mp hi
    have hkk : s.vm.classes[c] = k := (Array.getElem?_eq_some_iff.mp hk).2
    rw [hkk] at hp
    cases hkind : k.kind with
    | array component ty =>
      rw [hkind] at hb hp
      simp at hb hp
      exact ⟨comp, c, k, rfl, hi, hk, by rw [hkind, hp, hb.1], hb.2⟩
    | _ => rw [hkind] at hb; simp at hb
theorem am_AOA_m {u U : State} (hvm : u.vm.Alike U.vm) (h : am_AOA u) : am_AOA U := by
  obtain ⟨comp, c, k, h1, h2, h3, h4, h5⟩ := am_aoA h
  obtain ⟨k', hk', he⟩ := hvm.2.2 _ _ h3
  have hi : (U.vm.classes.findIdx? fun (x : Class) => match x.kind with | .array component _ => component == comp | _ => false) = some c := by
    refine (va_idx_bare U.vm comp).symm.trans ?_
    have hb : U.vm.bare = u.vm.bare := by first | exact hvm.bare_eq | exact hvm.bare_eq.symm
    rw [hb]
    exact (va_idx_bare u.vm comp).trans h2
  have hkind : k'.kind = .array comp (.array .int) := by rw [he]; exact h4
  have f1 : U.vm.findClass (FieldType.array .int).toString = some comp := by rw [hvm.findClass]; exact h1
  have f2 : U.vm.findClass ("[" ++ (FieldType.array .int).toString) = some c := by rw [hvm.findClass]; exact h5
  unfold am_AOA Cond.before Cond.holds
  simp only [Cond.value]
  rw [f1, Option.bind_some]
  refine (congrArg (fun o : Option Nat => (o.bind (fun c => (U.vm.classes[c]?).map fun (k : Class) => match k.kind with | .array _ ty => decide (ty = FieldType.array .int) && decide (U.vm.findClass ("[" ++ (FieldType.array .int).toString) = some c) | _ => false) == some true)) hi).trans ?_
  simp [hk', hkind, f2]
theorem am_Kx_same {G : am_G} {u U : State} (h : u.vm = U.vm) (hK : am_Kx G u) : am_Kx G U :=
  ⟨va_K.moved (by rw [h]; exact Vm.Alike.refl _) hK.1, fun w hw => va_Nw.same (am_nsw hw) h (hK.2.1 w hw), hK.2.2.1.moved (by rw [h]; exact Vm.Alike.refl _), hK.2.2.2.1.moved (by rw [h]; exact Vm.Alike.refl _), fun j hj => vk_R.same h.symm (hK.2.2.2.2.1 j hj), am_AOA_m (by rw [h]; exact Vm.Alike.refl _) hK.2.2.2.2.2⟩
theorem am_Kx_warm {G : am_G} {s U : State} (hW : s.WarmedH U.vm) (hK : am_Kx G s) : am_Kx G U :=
  ⟨va_K.moved hW.alike hK.1, fun w hw => am_nsW hw hW (hK.2.1 w hw), hK.2.2.1.moved hW.alike, hK.2.2.2.1.moved hW.alike, fun j hj => vk_R.warm hW (hK.2.2.2.2.1 j hj), am_AOA_m hW.alike hK.2.2.2.2.2⟩
theorem am_args_m (G : am_G) : ∀ (as : List Value) (i : Nat), lv_args i (as.map (am_v G)) = am_lvm G (lv_args i as)
  | [], _ => rfl
  | v :: as, i => by
    rw [List.map_cons]
    simp only [lv_args, am_lvm, List.map_cons, am_v_cat]
    congr 1
    exact am_args_m G as _
theorem am_args_k {n : Nat} : ∀ (as : List Value) (i : Nat), (∀ v ∈ as, am_vk n v) → ∀ q ∈ lv_args i as, am_vk n q.2
  | [], _, _, q, hq => by cases hq
  | v :: as, i, h, q, hq => by
    simp only [lv_args, List.mem_cons] at hq
    rcases hq with rfl | hq
    · exact h v List.mem_cons_self
    · exact am_args_k as _ (fun x hx => h x (List.mem_cons_of_mem _ hx)) q hq
theorem am_sl_len (G : am_G) (as : List Value) : (lg_sl (as.map (am_v G))).length = am_cs as := by
  unfold am_cs
  induction as with
  | nil => rfl
  | cons v as ih =>
    rw [List.map_cons, List.map_cons, List.sum_cons, ← ih]
    unfold lg_sl
    rw [List.flatMap_cons, List.length_append, am_v_cat]
    rcases lv_cat v with h | h
    · rw [h]; rfl
    · rw [h]; rfl
theorem am_Tx_w {G : am_G} {u U : State} {H : Heap} (hvm : u.vm.Alike U.vm) (h : am_Tx G u H) : am_Tx G U H := ⟨h.1.moved hvm, h.2.1.moved hvm, h.2.2.moved hvm⟩
def am_Pc (G : am_G) (as : List Value) (σ : am_S) : Array Value → State → Prop := fun v U => v = (as.map (am_v G)).toArray ∧ am_Rp G σ U.heap ∧ am_Kx G U ∧ am_Ox G U U.heap ∧ am_gB G ≤ U.heap.size
def am_Qc (G : am_G) (Post : Option Value → am_S → Prop) : Array Value → State → Outcome → State → Prop := fun _ st oc t => ∃ (v : Option Value) (σ' : am_S), oc = .returned (v.map (am_v G)) ∧ Post v σ' ∧ am_Rp G σ' t.heap ∧ (∀ x, v = some x → am_vk (am_n σ') x) ∧ st.heap.size ≤ t.heap.size ∧ ∀ q : Nat, q < st.heap.size → q < am_gB G → t.heap[q]? = st.heap[q]?
theorem am_met {P : Nat → am_MI} {d mi mc ms wi ws wl : Nat} {as : List Value} {σ : am_S} {Post : Option Value → am_S → Prop} (l : Launch) (G : am_G) (hok : am_cwP (P mi) ∧ am_okm (P mi) wi ws wl = true) (hvk : ∀ v ∈ as, am_vk (am_n σ) v) (hcs : am_cs as ≤ am_ml (P mi)) (h : am_C P d mi as σ mc ms Post) :
    Met l (am_my (P mi)) (.code (am_my (P mi)) (am_mb (P mi)) (am_ml (P mi)) (am_mr (P mi)) :: am_wg) ({ frames := d, cells := mc, slots := ms, locals := 200 * d }) (am_Pc G as σ) (am_Qc G Post) mc ms (am_A G) := by
  refine Met.ofW (cc := am_mb (P mi)) (maxL := am_ml (P mi)) (ret := am_mr (P mi)) (am_okm_e hok).2.2.1 rfl ?_
  intro p e s m args below meth c s₁ B hml hv
  obtain ⟨rfl, hR, hK, hO, hBz⟩ := hv
  have hts := atoms_spec (ws := .code (am_my (P mi)) (am_mb (P mi)) (am_ml (P mi)) (am_mr (P mi)) :: am_wg) B.pre
  have C : am_Cx (P mi) G p s m (as.map (am_v G)).toArray meth c := ⟨B.exec, B.bytes, hml, B.returns, B.notSynchronized, findClass_of_methodNamed B.named, (name_of_methodNamed B.named B.method).1, fun w hw => hts w (List.mem_cons_of_mem _ hw), hK, hO, hBz⟩
  have hl := lv_entry (as.map (am_v G)) (n := am_ml (P mi)) (by rw [am_sl_len]; exact hcs)
  rw [am_args_m] at hl
  rw [lg_entry_eq]
  refine h G p l e _ s m _ below meth c s.heap [] 0 0 _ _ C (Nat.le_refl _) (Nat.le_refl _) (Nat.le_of_eq (Nat.zero_add _)) (Nat.le_of_eq (Nat.zero_add _)) hR (fun v hv => by cases hv) (am_args_k as 0 hvk) va_S.rf hl ?_
  intro v σ' pc' ls' H' locs' cells' slots' hPost hR' hvk' hS' hc' hs' hrt
  refine W.widen (k := mc) (n := ms) hc' hs' ?_
  have hq : ∀ (oc : Option Value) (t : State), oc = v → t.heap = H' → am_Qc G Post (as.map (am_v G)).toArray s (.returned (oc.map (am_v G))) t := fun oc t e ht => ⟨v, σ', by rw [e], hPost, by rw [ht]; exact hR', hvk', by rw [ht]; exact hS'.1, fun q h1 h2 => by rw [ht]; exact hS'.2.1 q h1 (Nat.not_le.mpr h2)⟩
  unfold am_rt at hrt
  split at hrt
  · exact W.vret C.1 C.2.1 (C.2.2.2.1.trans hrt.1) (fun t ht _ => hq none t rfl ht) hS'.2.2 hrt.2 C.2.2.2.2.1
  · rename_i x
    obtain ⟨⟨ty, e1, e2⟩, e3⟩ := hrt
    exact W.zret C.1 C.2.1 (C.2.2.2.1.trans e1) e2 (fun t ht _ => hq (some (.int x)) t rfl ht) hS'.2.2 e3 C.2.2.2.2.1
  · rename_i x
    exact W.lret C.1 C.2.1 (C.2.2.2.1.trans hrt.1) (fun t ht _ => hq (some (.long x)) t rfl ht) hS'.2.2 hrt.2 C.2.2.2.2.1
  · exact hrt.elim
theorem am_blind (G : am_G) (as : List Value) (σ : am_S) : FrameBlind (am_Pc G as σ) := fun a U g mk q => ⟨q.1, q.2.1, am_Kx_same (u := U) (U := U.calling g mk a) rfl q.2.2.1, ⟨va_X.moved (u := U) (U := U.calling g mk a) (Vm.Alike.refl U.vm) q.2.2.2.1.1, q.2.2.2.1.2.1, am_Tx_w (u := U) (U := U.calling g mk a) (Vm.Alike.refl U.vm) q.2.2.2.1.2.2⟩, q.2.2.2.2⟩
section AMV
variable {p : Program} {l : Launch} {e : Env} {R : Room} {s : State} {m : MethodId} {args : Array Value} {below : List Frame} {meth : Method} {c : Code} {H : Heap} {locs : List Loc} {cells slots : Nat} {Q : State → Prop} {pc : Nat} {ls : Array Slot} {st0 r : List Value}
/-- what holds of the start of a call -/
theorem am_preU {M : am_MI} {G : am_G} {as : List Value} {σ : am_S} (C : am_Cx M G p s m args meth c) (hR : am_Rp G σ H) (hS : va_S (am_A G) s.heap H locs) : ∀ U : State, U.heap = H → s.WarmedH U.vm → am_Pc G as σ (as.map (am_v G)).toArray U := by
  intro U hU hW
  obtain ⟨-, -, -, -, -, -, -, -, hK, hO, hB⟩ := C
  refine ⟨rfl, by rw [hU]; exact hR, am_Kx_warm hW hK, ⟨?_, hO.2.1, ?_⟩, by rw [hU]; exact Nat.le_trans hB hS.1⟩
  · rw [hU]
    exact va_X.moved hW.alike (hO.1.kept (hS.2.1 _ (Nat.lt_of_lt_of_le hO.2.1 hB) (Nat.not_le.mpr hO.2.1)))
  · rw [hU]
    exact am_Tx_w hW.alike ⟨hO.2.2.1.kept hS.2.1, hO.2.2.2.1.kept hS.2.1, hO.2.2.2.2.kept hS.2.1⟩
/-- behind a call -/
theorem am_back {P : Nat → am_MI} {d mi cb sb mc ms : Nat} {lv : am_LV} {a : Array Value} {Post PostC : Option Value → am_S → Prop} {G : am_G} (C : am_Cx (P mi) G p s m args meth c) (h1 : d ≤ R.frames) (h2 : 200 * d ≤ R.locals) (h3 : cells + cb ≤ R.cells) (h4 : slots + sb ≤ R.slots) (hmc : mc ≤ cb) (hms : ms ≤ sb) {n0 : Nat} (hn0 : ∀ σ' H', am_Rp G σ' H' → H.size ≤ H'.size → n0 ≤ am_n σ') (h6 : ∀ v ∈ r, am_vk n0 v) (h7 : ∀ q ∈ lv, am_vk n0 q.2) (h8 : va_S (am_A G) s.heap H locs) (h9 : lv_has ls (am_ml (P mi)) (am_lvm G lv))
    (hr : ∀ (v : Option Value) (σ' : am_S) (pc' : Nat) (ls' : Array Slot) (H' : Heap) (locs' : List Loc) (cells' slots' : Nat), Post v σ' → am_Rp G σ' H' → (∀ x, v = some x → am_vk (am_n σ') x) → va_S (am_A G) s.heap H' locs' → cells' ≤ R.cells → slots' ≤ R.slots → am_rt (P mi) pc' v → W p l e R s m args below meth c H' locs' cells' slots' Q (F0 m pc' ls' (v.toList.map (am_v G))))
    (hK : ∀ v σ', PostC v σ' → am_T P d mi (pc + 3) lv (v.toList ++ r) σ' (cb - mc) (sb - ms) Post)
    (hrun : va_Run p l e R s m args below meth c H locs cells slots mc ms (F0 m pc ls st0) (r.map (am_v G)) (am_Qc G PostC a) (am_A G)) : W p l e R s m args below meth c H locs cells slots Q (F0 m pc ls st0) := by
  intro T hT X
  obtain ⟨v, st₀, t, T', L, e0, X', hL, e1, -, ⟨v', σ', ev, hP, hR', hvk, hz, hk⟩, step⟩ := hrun T hT X
  cases ev
  rw [e0] at hz hk
  rw [← e1] at hR' hz
  have hn := hn0 σ' _ hR' hz
  have mono : ∀ x : Value, am_vk n0 x → am_vk (am_n σ') x := fun x hx => by
    cases x with
    | ref q => exact Or.imp_left (fun z => Nat.lt_of_lt_of_le z hn) hx
    | _ => exact hx
  have hS' : va_S (am_A G) s.heap T'.heap (locs ++ L) := ⟨Nat.le_trans h8.1 hz, fun q g1 g2 => by
      rw [e1, hk q (Nat.lt_of_lt_of_le g1 h8.1) (Nat.not_le.mp g2)]
      exact h8.2.1 q g1 g2, fun q hq => by
      rcases List.mem_append.mp hq with g | g
      · exact h8.2.2 q g
      · exact hL q g⟩
  have go := hK v' σ' hP G p l e R s m args below meth c T'.heap (locs ++ L) (cells + mc) (slots + ms) Q ls C h1 h2 (by omega) (by omega) hR' (fun x hx => by
      rcases List.mem_append.mp hx with g | g
      · exact hvk x (by cases v' with
          | none => cases g
          | some y => rw [Option.toList_some, List.mem_singleton] at g; rw [g])
      · exact mono x (h6 x g)) (fun q hq => mono _ (h7 q hq)) hS' h9 hr
  obtain ⟨t2, a1, b1⟩ := go T' rfl X'
  refine ⟨t2, step t2 ?_, b1⟩
  have em : List.map (am_v G) (v'.toList ++ r) = (v'.map (am_v G)).toList ++ r.map (am_v G) := by cases v' <;> rfl
  rw [em] at a1
  exact a1
end AMV
