/-! THE CLAIM OUT OF ONE WALK OF THE LAW'S BODY. Your part is whole_start (and what it stands on); all else here is the same for every law, but numbers. -/
def R_law : String := "SpentTurnsLaw"
def lw_P (b : Addr) (xs : List Int32) (args : Array Value) (s : State) : Prop := args = #[.ref b] ∧ s.IntsAt b xs ∧ xs.length ≤ 3072 ∧ (Jvm.Cond.and given_1 narrow_1).before args s = true
def lw_Q (_ : Array Value) (s : State) (o : Outcome) (t : State) : Prop := o = .returned (some (.int 1)) ∧ Framed s o t [] 600000 7302250
def lw_Z (below : List Frame) (a : Array Value) (s : State) : State → Prop := fun t => ∃ o, t.status = .running ∧ Ended t below o ∧ lw_Q a s o t
/-- the law's own end, with 1 on the stack, nothing written that was there before, its room as the claim has it -/
theorem lw_ret {p : Program} {l : Launch} {e : Env} {s : State} {m : MethodId} {below : List Frame} {meth : Method} {c : Code} {b : Nat} (hx : p.tables.exec = Jvm.exec) (hb : c.code = code) (hr : meth.sig.returnType = ret) (hlocks : meth.locks = false) {pc : Nat} {H : Heap} {ls : Array Slot} (hdg : decode code pc = .ok (.ireturn, 1)) : W p l e room_1 s m #[Value.ref b] below meth c H [] 600000 7302250 (lw_Z below #[Value.ref b] s) (F0 m pc ls [.int 1]) := by
  intro T hT X
  obtain ⟨fs, hret, hrun, hended, hW, hframe⟩ := X.leave (v := some (.int 1)) (hlocks := hlocks) (fun h => by rw [hr] at h; cases h)
  have hmeth' : T.vm.method? m = some meth := X.method'
  refine ⟨T.setFrames fs, ?_, .returned (some (.int 1)), hrun, hended, rfl, ⟨_, rfl⟩, hW, hframe⟩
  jvm_step X.here [X.here.top, hx, hb, hdg, hmeth', hr, ret, narrow_b1]
  (try refine ⟨rfl, ?_⟩); (try refine ⟨rfl, ?_⟩)
  first | (intro acts; rw [hret _ acts rfl rfl rfl]) | rw [hret _ _ rfl rfl rfl]
  exact Steps.refl _
/-- what holds at the law's entry: the machine, the code, the tables' words (any of lw_tbl by 'hts w (by decide +kernel)'), the script of L ints xs at the cell b, what the Statement gives of the start (any of its parts by flat_of_before) -/
def lw_At (p : Program) (s : State) (m : MethodId) (meth : Method) (c : Code) (b L : Nat) (xs : Nat → Int32) : Prop :=
  p.tables.exec = Jvm.exec ∧ c.code = code ∧ meth.sig.returnType = ret ∧ c.maxLocals = 4 ∧ s.vm.findClass R_law = some m.cls ∧ (∀ w ∈ lw_tbl, w.before #[Value.ref b] s = true) ∧ va_X b L xs s s.heap ∧ b < s.heap.size ∧ meth.locks = false ∧ (Jvm.Cond.and given_1 narrow_1).before #[Value.ref b] s = true ∧ meth.name = "law"
/-- the state at the law's entry: the script alone -/
def am_s0 (xs : Nat → Int32) (L : Nat) : am_S := (fun a j => match Nat.beq a am_old with
  | true => xs j
  | false => 0, fun _ _ => 0, am_r1 (am_im (none, none, none)) L, 0)
/-- THE LAW, as a method of my own machine -/
def am_Law : Prop := ∀ (xs : Nat → Int32) (L : Nat), L ≤ 3072 → am_T am_P 400 mi_L_law 0 [(0, .ref am_old)] [] (am_s0 xs L) 600000 7302250 (fun v _ => v = some (.int 1))
theorem am_aP {args : Array Value} {s : State} {ty : FieldType} (h : (Cond.arrayClass ty).before args s = true) (hr : ∀ C, ty ≠ .object C) : ∃ cA, ArrOfT s cA ty ∧ va_RA s cA ty := by
  obtain ⟨cA, kA, comp, h1, h2, h3⟩ := Cond.arrayClass_spec h
  refine ⟨cA, fun n z => ⟨fun k h => (by cases h), kA, h2, comp, h3⟩, ?_⟩
  cases ty with
  | object C => exact absurd rfl (hr C)
  | _ => exact h1
theorem am_aQ {args : Array Value} {s : State} {C : String} (h : (Cond.arrayOver (.object C)).before args s = true) : ∃ cA, ArrOfT s cA (.object C) ∧ va_RA s cA (.object C) := by
  obtain ⟨comp, c, k, h1, h2, h3, h4, h5⟩ := Cond.arrayOver_spec h
  exact ⟨c, fun n z => ⟨fun k h => (by cases h), k, h3, comp, h4⟩, k, comp, h3, h4, h1, h5⟩
def am_tm (j : Nat) : Term := .string "SpentTurns$Reader" (am_si.getD j 0)
theorem am_ndw {args : Array Value} {s : State} (h : (Jvm.Cond.and given_1 narrow_1).before args s = true) : ∀ w ∈ flatC (Jvm.Cond.and given_1 narrow_1), w.before args s = true := flat_of_before _ h
theorem am_nx : ∀ i, i < 8 → Cond.exactly (am_tm i) "java/lang/String" ∈ flatC (Jvm.Cond.and given_1 narrow_1) := by decide +kernel
theorem am_nc : ∀ i, i < 8 → Cond.eq (.field (am_tm i) "java/lang/String" "coder" "B") (.int 0) ∈ flatC (Jvm.Cond.and given_1 narrow_1) := by decide +kernel
theorem am_na : ∀ i, i < 8 → Cond.arrayOf (.field (am_tm i) "java/lang/String" "value" "[B") .byte ∈ flatC (Jvm.Cond.and given_1 narrow_1) := by decide +kernel
theorem am_nl : ∀ i, i < 8 → Cond.eq (.length (.field (am_tm i) "java/lang/String" "value" "[B")) (.int (Int32.ofNat (am_xl.getD i 0))) ∈ flatC (Jvm.Cond.and given_1 narrow_1) := by decide +kernel
theorem am_ne : ∀ i, i < 8 → ∀ j, j < am_xl.getD i 0 → Cond.eq (.elem (.field (am_tm i) "java/lang/String" "value" "[B") (.int (Int32.ofNat j))) (.int ((am_xb.getD i []).getD j 0)) ∈ flatC (Jvm.Cond.and given_1 narrow_1) := by decide +kernel
theorem am_nd : ∀ i, i < 8 → ∀ j, j < 8 → i ≠ j → Cond.not (Cond.eq (am_tm i) (am_tm j)) ∈ flatC (Jvm.Cond.and given_1 narrow_1) ∨ Cond.not (Cond.eq (am_tm j) (am_tm i)) ∈ flatC (Jvm.Cond.and given_1 narrow_1) := by decide +kernel
theorem am_nz : Cond.eq (.static "java/lang/String" "COMPACT_STRINGS" "Z") (.int 1) ∈ flatC (Jvm.Cond.and given_1 narrow_1) ∧ Cond.isRef (.static "jdk/internal/util/Preconditions" "SIOOBE_FORMATTER" "Ljava/util/function/BiFunction;") ∈ flatC (Jvm.Cond.and given_1 narrow_1) := by decide +kernel
theorem am_sr : ∀ i, i < 8 → Cond.stringRef "SpentTurns$Reader" (am_si.getD i 0) (am_xt.getD i "") ∈ lw_tbl := by
  intro i hi
  match i, hi with
  | 0, _ => exact List.mem_of_getElem? (i := 638) (by decide +kernel)
  | 1, _ => exact List.mem_of_getElem? (i := 707) (by decide +kernel)
  | 2, _ => exact List.mem_of_getElem? (i := 720) (by decide +kernel)
  | 3, _ => exact List.mem_of_getElem? (i := 721) (by decide +kernel)
  | 4, _ => exact List.mem_of_getElem? (i := 722) (by decide +kernel)
  | 5, _ => exact List.mem_of_getElem? (i := 743) (by decide +kernel)
  | 6, _ => exact List.mem_of_getElem? (i := 752) (by decide +kernel)
  | 7, _ => exact List.mem_of_getElem? (i := 757) (by decide +kernel)
  | n + 8, h => omega
theorem am_mkG {args : Array Value} {s : State} {b L : Nat} {xs : Nat → Int32} (hgv : (Jvm.Cond.and given_1 narrow_1).before args s = true) (hts : ∀ w ∈ lw_tbl, w.before args s = true) (hX : va_X b L xs s s.heap) (hb : b < s.heap.size) : ∃ G : am_G, am_Kx G s ∧ am_Ox G s s.heap ∧ am_gB G = s.heap.size ∧ am_gL G = L ∧ am_gx G = xs ∧ am_ga G 0 = b := by
  have htg : ∀ w ∈ am_wg, w.before args s = true := fun w hw => hts w (List.mem_filter.mp hw).1
  have hcl : ∀ c : Nat, ∃ q : ClassId × (Nat → Nat), c < 12 → u_Kn s (am_cn c) (am_tT c) (am_fn c) q.1 q.2 := by
    intro c
    by_cases hc : c < 12
    · obtain ⟨cC, iS, h⟩ := u_known htg (am_la c hc) (htg _ (am_insw c hc).1)
      exact ⟨(cC, iS), fun _ => h⟩
    · exact ⟨(0, fun _ => 0), fun h => absurd h hc⟩
  obtain ⟨f, hf⟩ := Classical.axiomOfChoice hcl
  obtain ⟨c12, a12⟩ := am_aP (htg _ am_arw.1) (fun C h => by cases h)
  obtain ⟨c13, a13⟩ := am_aP (htg _ am_arw.2.1) (fun C h => by cases h)
  obtain ⟨c14, a14⟩ := am_aP (htg _ am_arw.2.2.1) (fun C h => by cases h)
  obtain ⟨c15, a15⟩ := am_aP (htg _ am_arw.2.2.2) (fun C h => by cases h)
  have hoN : (Cond.arrayOver (.object "SpentTurns$Numbers")).before args s = true := hts _ (List.mem_of_getElem? (i := 325) (by decide +kernel))
  have hoT : (Cond.arrayOver (.object "SpentTurns$Town")).before args s = true := hts _ (List.mem_of_getElem? (i := 323) (by decide +kernel))
  have hoI : (Cond.arrayOver (.array .int)).before args s = true := hts _ (List.mem_of_getElem? (i := 474) (by decide +kernel))
  obtain ⟨c16, a16⟩ := am_aQ hoN
  obtain ⟨c17, a17⟩ := am_aQ hoT
  obtain ⟨comp, c18, k18, g1, -, g2, g3, g4⟩ := am_aoA hoI
  have a18 : ArrOfT s c18 (.array .int) ∧ va_RA s c18 (.array .int) := ⟨fun n z => ⟨fun k h => (by cases h), k18, g2, comp, g3⟩, g4⟩
  have hA : ∀ a : Nat, a < s.heap.size → ¬ s.heap.size ≤ a := fun a h => Nat.not_le.mpr h
  have hn := am_ndw hgv
  obtain ⟨adK, adV, hvS, hev⟩ := vk_Sof (A := fun q => s.heap.size ≤ q) (N := 8) (tm := am_tm) (len := am_xl) (byt := am_xb) (fun i _ => am_xl31 i) (fun i hi => hn _ (am_nx i hi)) (fun i hi => hn _ (am_nc i hi)) (fun i hi => hn _ (am_na i hi)) (fun i hi => hn _ (am_nl i hi)) (fun i hi j hj => hn _ (am_ne i hi j hj)) (fun i j hi hj hij => (am_nd i hi j hj hij).imp (hn _) (hn _)) hA
  have hZ := va_Zof (A := fun q => s.heap.size ≤ q) (hts (.laysStatic "java/lang/String" "COMPACT_STRINGS" "Z") (List.mem_of_getElem? (i := 652) (by decide +kernel))) (hts (.initialized "java/lang/String") (List.mem_of_getElem? (i := 182) (by decide +kernel))) (va_eqi (hn _ am_nz.1)) hA
  have hZq := va_Zqof (A := fun q => s.heap.size ≤ q) (hts (.laysStatic "jdk/internal/util/Preconditions" "SIOOBE_FORMATTER" "Ljava/util/function/BiFunction;") (List.mem_of_getElem? (i := 668) (by decide +kernel))) (hts (.initialized "jdk/internal/util/Preconditions") (List.mem_of_getElem? (i := 184) (by decide +kernel))) (hn _ am_nz.2) hA
  have eK : ∀ j, j < 8 → (if 1 + j = 0 then b else if 1 + j < 20 then adK (1 + j - 1) else adV (1 + j - 20)) = adK j := fun j hj => by
    rw [if_neg (by omega), if_pos (by omega), show 1 + j - 1 = j by omega]
  have eV : ∀ j, (if 20 + j = 0 then b else if 20 + j < 20 then adK (20 + j - 1) else adV (20 + j - 20)) = adV j := fun j => by
    rw [if_neg (by omega), if_neg (by omega), show 20 + j - 20 = j by omega]
  refine ⟨((fun c => (f c).1, fun c => (f c).2), (fun k => if k = 12 then c12 else if k = 13 then c13 else if k = 14 then c14 else if k = 15 then c15 else if k = 16 then c16 else if k = 17 then c17 else c18), s.heap.size, (fun k => if k = 0 then b else if k < 20 then adK (k - 1) else adV (k - 20)), L, xs), ⟨⟨?_, ?_⟩, ?_, hoN, hoT, ?_, hoI⟩, ⟨hX, hb, ⟨fun i hi => ?_, fun i j hi hj hij => ?_⟩, hZ, hZq⟩, rfl, rfl, rfl, rfl⟩
  · intro c q hq
    have hc : c < 12 := (List.getElem?_eq_some_iff.mp hq).1
    have e : q = (am_cn c, am_tT c, am_fn c) := Option.some.inj (hq.symm.trans (am_clat c hc))
    subst e
    exact hf c hc
  · intro k q hq
    match k, hq with
    | 0, hq => cases hq; exact a12
    | 1, hq => cases hq; exact a13
    | 2, hq => cases hq; exact a14
    | 3, hq => cases hq; exact a15
    | 4, hq => cases hq; exact a16
    | 5, hq => cases hq; exact a17
    | 6, hq => cases hq; exact a18
    | k + 7, hq => simp [am_tys] at hq
  · intro w hw
    exact va_Nw.of (am_nsw hw) (hts w (List.mem_filter.mp hw).1)
  · intro j hj
    refine vk_R.of (A := args) (hts _ (am_sr j hj)) ?_
    show (Term.string _ _).eval args s none [] s = some (.ref (if 1 + j = 0 then b else if 1 + j < 20 then adK (1 + j - 1) else adV (1 + j - 20)))
    rw [eK j hj]
    exact hev j hj
  · have h := hvS.1 i hi
    show va_O "java/lang/String" (if 1 + i = 0 then b else if 1 + i < 20 then adK (1 + i - 1) else adV (1 + i - 20)) _ s s.heap ∧ va_OF "java/lang/String" "coder" "B" (.int 0) (if 1 + i = 0 then b else if 1 + i < 20 then adK (1 + i - 1) else adV (1 + i - 20)) _ s s.heap ∧ va_OF "java/lang/String" "value" "[B" (.ref (if 20 + i = 0 then b else if 20 + i < 20 then adK (20 + i - 1) else adV (20 + i - 20))) (if 1 + i = 0 then b else if 1 + i < 20 then adK (1 + i - 1) else adV (1 + i - 20)) _ s s.heap ∧ va_T .byte (if 20 + i = 0 then b else if 20 + i < 20 then adK (20 + i - 1) else adV (20 + i - 20)) _ _ _ s s.heap
    rw [eK i hi, eV i]
    exact h
  · refine hvS.2 i j hi hj ?_
    have h : (if 1 + i = 0 then b else if 1 + i < 20 then adK (1 + i - 1) else adV (1 + i - 20)) = (if 1 + j = 0 then b else if 1 + j < 20 then adK (1 + j - 1) else adV (1 + j - 20)) := hij
    rw [eK i hi, eK j hj] at h
    exact h
/-- THE REAL MACHINE'S WALK OF THE LAW, out of my own machine's -/
theorem whole_start (hLaw : am_Law) {p : Program} {e : Env} {s : State} {m : MethodId} {below : List Frame} {meth : Method} {c : Code} (l : Launch) (hflags : l.flags = flags0) {b L : Nat} {xs : Nat → Int32} (hL : L ≤ 3072) (C0 : lw_At p s m meth c b L xs) : W p l e room_1 s m #[Value.ref b] below meth c s.heap [] 0 0 (lw_Z below #[Value.ref b] s) (entryFrame m ([Value.ref b] : List Value).toArray 4) := by
  obtain ⟨hx, hb, hr, hml, hown, hts, hX, hbl, hlocks, hgv, hnm⟩ := C0
  obtain ⟨G, hK, hO, eB, eL, ex, ea⟩ := am_mkG hgv hts hX hbl
  have C : am_Cx (am_P mi_L_law) G p s m #[Value.ref b] meth c := ⟨hx, hb, hml, hr, hlocks, hown, hnm, fun w hw => hts w (List.mem_filter.mp hw).1, hK, hO, by rw [eB]; exact Nat.le_refl _⟩
  have hl := lv_entry ([.ref b]) (n := 4) (Nat.le_of_ble_eq_true rfl)
  rw [lg_entry_eq]
  have e0 : lv_args 0 [Value.ref b] = am_lvm G [(0, .ref am_old)] := by
    show [(0, Value.ref b)] = [(0, Value.ref (am_ad G am_old))]
    have : am_ad G am_old = b := by
      rw [← ea]
      exact if_neg (Nat.lt_irrefl _)
    rw [this]
  rw [e0] at hl
  have hR : am_Rp G (am_s0 xs L) s.heap := by
    refine ⟨fun k q hq => ?_, ?_, Nat.le_of_ble_eq_true rfl, fun a k r ha => absurd ha (Nat.not_lt_zero _), ?_, ?_⟩
    · have : (am_W G (am_s0 xs L)) = [] := rfl
      rw [this] at hq
      cases hq
    · rw [eB]; rfl
    · rw [ex]; rfl
    · rw [eL]; rfl
  refine hLaw xs L hL G p l e room_1 s m #[Value.ref b] below meth c s.heap [] 0 0 (lw_Z below #[Value.ref b] s) _ C (Nat.le_of_ble_eq_true rfl) (Nat.le_of_ble_eq_true rfl) (Nat.le_of_ble_eq_true rfl) (Nat.le_of_ble_eq_true rfl) hR (fun v hv => by cases hv) (fun q hq => by
    rcases List.mem_cons.mp hq with rfl | hq
    · exact Or.inr (Nat.le_refl _)
    · cases hq) va_S.rf hl ?_
  intro v σ' pc' ls' H' locs' cells' slots' hPost hR' hvk' hS' hc' hs' hrt
  subst hPost
  obtain ⟨-, hdg⟩ := hrt
  refine va_forget (fun q hq => by have := hS'.2.2 q hq; rw [← eB]; exact this) ?_
  refine W.widen (k := 600000) (n := 7302250) hc' hs' ?_
  exact lw_ret hx hb hr hlocks hdg
-- ===== YOUR PART ENDS =====
set_option maxHeartbeats 4000000 in
theorem lw_walk (hLaw : am_Law) (l : Launch) (hflags : l.flags = flags0) (b : Addr) (xs : List Int32) : MetFree l x (headSpec (Jvm.Cond.code x code maxLocals ret :: tables_1) room_1) (lw_P b xs) (fun _ _ _ _ _ => True) lw_Q := by
  refine MetFree.of_bodyS (code := code) (maxLocals := maxLocals) (ret := ret) (by decide) ?_ ?_
  · intro args s m h hn
    obtain ⟨meth, c, h1, h2, h3, h4, h5, h6, -, -⟩ := Cond.code_spec hn (atoms_spec (ws := Jvm.Cond.code x code maxLocals ret :: tables_1) h _ List.mem_cons_self)
    exact ⟨meth, c, h1, h2, h3, h4, h5, h6⟩
  · intro p e s m args below meth c s₁ B hml0 hP _
    obtain ⟨rfl, hx, hbd, hgv⟩ := hP
    obtain ⟨scr, harrAt, hlist, hof, hsmall⟩ := hx
    obtain ⟨hcb, hkn, -, -⟩ := State.arrayAt?_spec harrAt
    have hown : s.vm.findClass R_law = some m.cls := findClass_of_methodNamed B.named
    have hts0 : ∀ c ∈ (Jvm.Cond.code x code maxLocals ret :: tables_1), c.before #[Value.ref b] s = true := atoms_spec (ws := Jvm.Cond.code x code maxLocals ret :: tables_1) B.pre
    have hts : ∀ w ∈ lw_tbl, w.before #[Value.ref b] s = true := k2_hts_sels lw_privs (fun w hw => hts0 w (List.mem_cons_of_mem _ hw)) lw_privs_ok
    have hml : c.maxLocals = 4 := B.maxLocals_eq (hts0 _ List.mem_cons_self)
    have X₀ : Stand p l e room_1 s m #[Value.ref b] below meth c s₁ [] 0 0 := Stand.of_body B
    have hh0 : s₁.heap = s.heap := by rw [B.state]; rfl
    have hsz : scr.slots.size = xs.length := by rw [← Array.length_toList, hlist, List.length_map]
    have hval : ∀ j : Nat, j < xs.length → scr.slots[j]? = some (.int (xs.getD j 0)) := fun j hj => by
      rw [← Array.getElem?_toList, hlist]
      simp [hj]
    have hbl : b < s.heap.size := (Array.getElem?_eq_some_iff.mp hcb).1
    have hX : va_X b xs.length (fun j => xs.getD j 0) s s.heap := ⟨scr, hcb, hof, hkn, hsz, hval⟩
    have K : W p l e room_1 s m #[Value.ref b] below meth c s₁.heap [] 0 0 (lw_Z below #[Value.ref b] s) (entryFrame m ([Value.ref b] : List Value).toArray 4) := by
      rw [hh0]
      exact whole_start hLaw l hflags hbd ⟨B.exec, B.bytes, B.returns, hml, hown, hts, hX, hbl, B.notSynchronized, hgv, (name_of_methodNamed B.named B.method).1⟩
    obtain ⟨t, a1, o, b1, b2, b3⟩ := K s₁ rfl X₀
    exact ⟨t, o, a1, b1, b2, b3⟩
theorem lw_pre_spec {args : Array Value} {s : State} (h : (Jvm.Cond.and given_1 narrow_1).before args s = true) (hr : rest_1_c.before args s = true) : ∃ (b : Addr) (xs : List Int32), lw_P b xs args s := by
  have hs := flat_of_before _ h
  have hq := flat_of_before _ hr
  have hc : (Cond.count 1).before args s = true := hs _ (by decide +kernel)
  have harr : (Cond.arrayOf (.arg 0) .int).before args s = true := hs _ (by decide +kernel)
  have hle : (Cond.le (.length (.arg 0)) (.int 3072)).before args s = true := hs _ (by decide +kernel)
  have hlen : (Cond.isInt (.length (.arg 0))).before args s = true := hq _ (by decide +kernel)
  have hall : (Cond.all (.arg 0) (.isInt (.elem (.arg 0) (.index 0)))).before args s = true := hq _ (by decide +kernel)
  obtain ⟨b, xs, hb, hx⟩ := State.ints_of_pre rfl harr hlen hall
  have hsm : xs.length < 2 ^ 31 := hx.choose_spec.2.2.2
  have hev : (Term.length (.arg 0)).eval args s none [] s = some (.int xs.length.toInt32) := hx.length_eval hb
  have hv := Cond.le_ints hev (show (Term.int 3072).eval args s none [] s = some (.int 3072) from rfl)
  have hd : xs.length.toInt32 ≤ 3072 := by
    simpa [Cond.before, Cond.holds, hv] using hle
  have hN : xs.length ≤ 3072 := (Int32.ofNat_le_ofNat hsm (by decide)).mp (show Int32.ofNat xs.length ≤ Int32.ofNat 3072 from hd)
  exact ⟨b, xs, Cond.one_arg hc (show args[0]? = some (.ref b) from hb), hx, hN, h⟩
theorem lw_comes (hLaw : am_Law) (l : Launch) (hflags : l.flags = flags0) : Comes l x (Jvm.Cond.code x code maxLocals ret :: tables_1) room_1 (fun tb e args s => Calls_1 tb e args s ∧ rest_1 tb e args s ∧ Pre_1 tb e args s)
    (fun _ _ args s o t => lw_Q args s o t) := by
  intro p e ha hc hk s m args below hf hfit hheap happ hpre
  obtain ⟨b, xs, hP⟩ := lw_pre_spec hpre.2.2 hpre.2.1
  obtain ⟨k, o, h1, h2, h3, hQ⟩ := lw_walk hLaw l hflags b xs p e ha hc hk s m args below hf ((Spec.applies_iff_loose hf).mp happ).1 hP trivial
  exact ⟨k, o, h1, h2, h3, hQ⟩
theorem lw_frame {s t : State} {o : Outcome} {args : Array Value} (h : Framed s o t [] 600000 7302250) :
    Framed s o t (fieldLocs frame_1_writes args s ++ arrayLocs frame_1_arrays args s ++ staticLocs frame_1_statics s) 600000 7302250 := h
theorem lw_limb (hLaw : am_Law) (L : Cond) (hL : ∀ (args : Array Value) (s t : State), L.after args s (.returned (some (.int 1))) t = true) :
    ArmFor flags0 classFile x code maxLocals ret World_1 tables_1 room_1 Calls_1 rest_1 Pre_1
      (fun tb e a s o t => postC L tb e a s o t ∧ Framed s o t (fieldLocs frame_1_writes a s ++ arrayLocs frame_1_arrays a s ++ staticLocs frame_1_statics s) 600000 7302250) := by
  intro l hflags _ _ p e ha hc hk s m args below hf hfit hheap happ hpre
  obtain ⟨k, o, h1, h2, h3, rfl, hF⟩ := lw_comes hLaw l hflags p e ha hc hk s m args below hf hfit hheap happ hpre
  exact ⟨k, _, h1, h2, h3, hL args s _, lw_frame hF⟩
theorem am_vc (hLaw : am_Law) : Claimed_1_1 ∧ Claimed_1_2 := ⟨lw_limb hLaw limb_1_1 (fun args s t => by simp [limb_1_1, Cond.after, Cond.holds, Cond.value]), lw_limb hLaw limb_1_2 (fun args s t => Cond.after_iff.mpr (by
  first | (rw [show limb_1_2 = Cond.eq .result (.int 1) from rfl, Cond.eq_ints (x := 1) (y := 1) rfl rfl]; simp; done) | (simp [limb_1_2, Cond.value, Term.eval]; done)))⟩
