/-! fields, new objects and arrays, constants of the pool, switches, returns -/
theorem am_fk_ok : ∀ c, c < 12 → ∀ k, k < am_fn c → (am_ft c k = 0 → am_ty c k = .int) ∧ (am_ft c k = 1 → am_ty c k = .long) ∧ (am_ft c k = 2 → (am_ty c k).isReference = true) ∧ (am_ft c k = 0 ∨ am_ft c k = 1 ∨ am_ft c k = 2 ∨ (am_ft c k = 3 ∧ am_ty c k = .boolean)) := by decide +kernel
theorem am_fv_v {G : am_G} {σ : am_S} {H : Heap} {c a k : Nat} (h : am_Rp G σ H) (ha : am_pm a < am_n σ) : am_fv G σ c a k = am_v G (match am_ft c k with
    | 1 => .long (am_L σ a k)
    | 2 => am_o (am_R σ a k)
    | _ => .int (am_I σ a k)) := by
  have hq := am_rf_o (G := G) (r := am_R σ a k) (fun x hx => by
      have h1 := h.2.2.2.1 a k x ha hx
      have h2 : am_n σ < am_old := h.2.2.1
      exact am_pm_gt (by unfold am_old; omega) (Nat.lt_trans h1 h2))
  unfold am_fv
  generalize am_ft c k = z
  match z with
  | 0 => rfl
  | 1 => rfl
  | 2 => exact hq
  | n + 3 => rfl
theorem am_fv_k {G : am_G} {σ : am_S} {H : Heap} {c a k : Nat} (h : am_Rp G σ H) (ha : am_pm a < am_n σ) : am_vk (am_n σ) (match am_ft c k with
    | 1 => .long (am_L σ a k)
    | 2 => am_o (am_R σ a k)
    | _ => .int (am_I σ a k)) := by
  split
  · trivial
  · exact am_o_vk h ha
  · trivial
theorem am_W_o {G : am_G} {σ : am_S} {a c : Nat} (ha : am_pm a < am_n σ) (h : am_kd a = c) (hc : c < 12) : (am_W G σ)[am_pm a]? = some (am_ph G a, .inr (c, (List.range (am_fn c)).map (am_fv G σ c a))) := by
  rw [am_Wat ha, am_E_o h hc]
theorem am_fits_ref {ty : FieldType} {x : Nat} (h : ty.isReference = true) : narrow ty (.ref x) = .ref x ∧ fits ty (.ref x) = true := by
  cases ty <;> first | exact ⟨rfl, rfl⟩ | cases h
section AMP
variable {p : Program} {l : Launch} {e : Env} {R : Room} {s : State} {m : MethodId} {args : Array Value} {below : List Frame} {meth : Method} {c : Code} {H : Heap} {locs : List Loc} {cells slots : Nat} {Q : State → Prop} {pc : Nat} {ls : Array Slot} {rest : List Value}
/-- a write to a field -/
theorem am_putW {M : am_MI} {G : am_G} {σ : am_S} {a ci k wp ix : Nat} {v : Value} (C : am_Cx M G p s m args meth c) (hR : am_Rp G σ H) (ha : am_pm a < am_n σ) (hk : am_kd a = ci) (hci : ci < 12) (hkn : k < am_fn ci) (hfl : am_fl (am_my M).cls wp ix ci k = true) (hfin : (!(am_tT ci k).2.2.2 || decide ((am_my M).name = "<init>" ∧ (am_tT ci k).1 = (am_my M).cls)) = true)
    (hn : narrow (am_ty ci k) v = v) (hfit : fits (am_ty ci k) v = true) (hdg : decode (am_mb M) pc = .ok (.putfield ix, 3))
    (kk : ∀ (H1 : Heap) (L : Loc), L.base = am_ph G a → H1.size = H.size → (∀ q : Nat, q ≠ am_ph G a → H1[q]? = H[q]?) → va_at (am_gD G) am_cl (am_ph G a, .inr (ci, ((List.range (am_fn ci)).map (am_fv G σ ci a)).set k v)) H1 → W p l e R s m args below meth c H1 (locs ++ [L]) cells slots Q (F0 m (pc + 3) ls rest)) :
    W p l e R s m args below meth c H locs cells slots Q (F0 m pc ls (v :: .ref (am_ph G a) :: rest)) := by
  obtain ⟨hx, hb, hml, hret, hlk, hown, hnm, hts, hK, -⟩ := C
  have hin := am_la ci hci
  have hc := am_clat ci hci
  have hap := va_apart (own := (am_my M).cls) hts hin (am_ty ci) (am_tyok ci hci) (am_nm ci hci) hK.1 hc
  obtain ⟨r, g1, cell, q1, q2, q3, q4⟩ := hR.1 _ _ (am_W_o ha hk hci)
  have hr : r = (am_cn ci, am_tT ci, am_fn ci) := Option.some.inj (g1.symm.trans hc)
  subst hr
  obtain ⟨hS, hfc, kC, hkC, hkind⟩ := hK.1.1 ci _ hc
  obtain ⟨cf, kf, fi, f, hi, hsl⟩ := hS k hkn
  have hst := (u_facts hfc hkC (u_lays hts hin hkn) hi).1
  have hlen : k < ((List.range (am_fn ci)).map (am_fv G σ ci a)).length := by simpa using hkn
  have fin : ∀ H' : Heap, H'[am_ph G a]? = some (cell.setSlot (am_gD G |>.2 ci k) v) → va_at (am_gD G) am_cl (am_ph G a, .inr (ci, ((List.range (am_fn ci)).map (am_fv G σ ci a)).set k v)) H' := fun H' e1 =>
    ⟨_, hc, t_OB.to (V := updV (vp_V ((List.range (am_fn ci)).map (am_fv G σ ci a))) k v) ⟨_, e1, q2, q3, t_set q4 hap hkn v⟩ (fun j _ => vp_updV_set hlen v j)⟩
  have hlay := hts _ (hin _ (u_in_lay hkn))
  unfold u_lay at hlay
  cases hF : (am_tT ci k).2.2.2 with
  | false =>
    rw [if_neg (by rw [hF]; decide)] at hlay
    have h6 := u_store hfc hkC hkind hlay hi (am_tyok ci hci k hkn) hn hfit
    rcases am_fl_e hfl with hl | ⟨host, hl⟩
    · refine W.putK hx hb (f := f) ⟨hown, hts _ hl, ⟨_, _, _, hi⟩, hst⟩ (by rw [q2]; exact h6) q1 q3 (by rw [hsl]; exact k2_hasslot (q4 k hkn)) rfl rfl hdg fun H' e1 e2 e3 => ?_
      rw [hsl] at e1
      exact kk H' _ rfl e2 e3 (fin H' e1)
    · refine va_WputK hx hb (f := f) hown (va_Nw.use rfl (hK.2.1 _ hl)) hi hst (by rw [q2]; exact h6) q1 q3 (by rw [hsl]; exact k2_hasslot (q4 k hkn)) rfl rfl hdg fun H' e1 e2 e3 => ?_
      rw [hsl] at e1
      exact kk H' _ rfl e2 e3 (fin H' e1)
  | true =>
    rw [if_pos hF] at hlay
    rw [hF] at hfin
    obtain ⟨hi1, hi2⟩ : (am_my M).name = "<init>" ∧ (am_tT ci k).1 = (am_my M).cls := of_decide_eq_true (by simpa using hfin)
    have hcf : m.cls = cf := by
      obtain ⟨_, _, c', _, _, _, -, -, hf', -, -, -, hown2, -⟩ := Cond.laysFinal_spec hlay
      have e1 : c' = cf := by have := hi.symm.trans hf'; simp at this; exact this.1.symm
      rw [hi2] at hown2
      rw [← e1]; exact Option.some.inj (hown.symm.trans hown2)
    have h6 := u_fits hfc hkC hkind (Or.inr hlay) hi (am_tyok ci hci k hkn) hn hfit
    rcases am_fl_e hfl with hl | ⟨host, hl⟩
    · refine W.putFinK hx hb hown (hts _ hl) hi hst hcf (hnm.trans hi1) (by rw [q2]; exact h6) q1 q3 (by rw [hsl]; exact k2_hasslot (q4 k hkn)) rfl rfl hdg fun H' e1 e2 e3 => ?_
      rw [hsl] at e1
      exact kk H' _ rfl e2 e3 (fin H' e1)
    · refine va_Wputf hx hb hown (va_Nw.use rfl (hK.2.1 _ hl)) hi hst (Or.inr ⟨hcf, hnm.trans hi1⟩) q1 (by rw [q3]; exact fun h => by cases h) (by rw [hsl]; exact k2_hasslot (q4 k hkn)) h6.1 (by rw [q2, q3]; exact h6.2) rfl rfl hdg ?_
      have hal : am_ph G a < H.size := (Array.getElem?_eq_some_iff.mp q1).1
      refine kk _ _ rfl (by simp) (fun q hq => by simp [Array.getElem?_setIfInBounds, Ne.symm hq]) (fin _ ?_)
      rw [hsl]
      simp [Array.getElem?_setIfInBounds, hal]
end AMP
section AMN
variable {P : Nat → am_MI} {NM d mi pc len ix wp cb sb : Nat} {lv : am_LV} {st : List Value} {σ : am_S} {Post : Option Value → am_S → Prop}

theorem am_g_getfield {q : Nat} (hok : am_okb P NM (P mi) (pc, .getfield q, len, ix, wp) = true) (h : am_pr st (fun a r => am_b (Nat.beq (am_kd a) (q / 64)) (am_T P d mi (pc + len) lv ((match am_ft (q / 64) (q % 64) with
    | 1 => .long (am_L σ a (q % 64))
    | 2 => am_o (am_R σ a (q % 64))
    | _ => .int (am_I σ a (q % 64))) :: r) σ cb sb Post))) : am_T P d mi pc lv st σ cb sb Post := by
  obtain ⟨a, r, rfl, hA⟩ := am_pr_e h
  obtain ⟨hk, hB⟩ := am_b_e hA
  clear h hA
  have hk := Nat.eq_of_beq_eq_true hk
  simp only [am_okb, Bool.and_eq_true] at hok
  obtain ⟨⟨⟨⟨hle, hdg⟩, hci⟩, hkn⟩, hfl⟩ := hok
  have hle := Nat.eq_of_beq_eq_true hle
  subst hle
  have hdg := am_dc_e hdg
  have hci : q / 64 < 12 := Nat.le_of_ble_eq_true hci
  have hkn : q % 64 < am_fn (q / 64) := Nat.le_of_ble_eq_true hkn
  intro G p l e R s m args below meth c H locs cells slots Q ls C h1 h2 h3 h4 h5 h6 h7 h8 h9 hr
  obtain ⟨ha, hlo⟩ := am_lo (am_hd h6) hk (by omega)
  have eA : am_v G (.ref a) = .ref (am_ph G a) := by show Value.ref (am_ad G a) = _; rw [am_ad_lo hlo]
  show W p l e R s m args below meth c H locs cells slots Q (F0 m pc ls (am_v G (.ref a) :: r.map (am_v G)))
  rw [eA]
  have go := hB G p l e R s m args below meth c H locs cells slots Q ls C h1 h2 h3 h4 h5 (am_hc (am_fv_k h5 ha) (am_tl h6)) h7 h8 h9 hr
  have ev := am_fv_v (c := q / 64) (k := q % 64) h5 ha
  rcases am_fl_e hfl with hl | ⟨host, hl⟩
  · exact va_get C.1 C.2.1 C.2.2.2.2.2.2.2.1 (am_la _ hci) C.2.2.2.2.2.1 C.2.2.2.2.2.2.2.2.1.1 h5.1 (am_pm a) (am_W_o ha hk hci) (am_clat _ hci) (q % 64) hkn (C.2.2.2.2.2.2.2.1 _ hl) (fun x hx => hx) (by rw [am_fs_at hkn, ev]) hdg go
  · exact va_getN C.1 C.2.1 C.2.2.2.2.2.2.2.1 (am_la _ hci) C.2.2.2.2.2.1 C.2.2.2.2.2.2.2.2.1.1 h5.1 (am_pm a) (am_W_o ha hk hci) (am_clat _ hci) (q % 64) hkn (va_Nw.use rfl (C.2.2.2.2.2.2.2.2.1.2.1 _ hl)) (fun x hx => hx) (by rw [am_fs_at hkn, ev]) hdg go
theorem am_g_putfield {q : Nat} (hok : am_okb P NM (P mi) (pc, .putfield q, len, ix, wp) = true) (h : am_pv st (fun v r => am_pr r (fun a r => am_b (Nat.beq (am_kd a) (q / 64)) (match am_ft (q / 64) (q % 64) with
    | 0 => (match v with
      | .int x => am_T P d mi (pc + len) lv r (am_sI σ a (va_up (am_I σ a) (q % 64) x)) cb sb Post
      | _ => False)
    | 1 => (match v with
      | .long x => am_T P d mi (pc + len) lv r (am_sL σ a (va_up (am_L σ a) (q % 64) x)) cb sb Post
      | _ => False)
    | 2 => (match v with
      | .ref b => am_b (Nat.blt b am_old) (am_T P d mi (pc + len) lv r (am_sR σ a (va_up (am_R σ a) (q % 64) (some b))) cb sb Post)
      | _ => False)
    | _ => (match v with
      | .int x => (x = 0 ∨ x = 1) ∧ am_T P d mi (pc + len) lv r (am_sI σ a (va_up (am_I σ a) (q % 64) x)) cb sb Post
      | _ => False))))) : am_T P d mi pc lv st σ cb sb Post := by
  obtain ⟨v, r', rfl, hA⟩ := am_pv_e h
  obtain ⟨a, r, rfl, hA'⟩ := am_pr_e hA
  obtain ⟨hk, hB⟩ := am_b_e hA'
  clear h hA hA'
  have hk := Nat.eq_of_beq_eq_true hk
  simp only [am_okb, Bool.and_eq_true] at hok
  obtain ⟨⟨⟨⟨⟨hle, hdg⟩, hci⟩, hkn⟩, hfl⟩, hfin⟩ := hok
  have hle := Nat.eq_of_beq_eq_true hle
  subst hle
  have hdg := am_dc_e hdg
  have hci : q / 64 < 12 := Nat.le_of_ble_eq_true hci
  have hkn : q % 64 < am_fn (q / 64) := Nat.le_of_ble_eq_true hkn
  obtain ⟨t0, t1, t2, t3⟩ := am_fk_ok _ hci _ hkn
  intro G p l e R s m args below meth c H locs cells slots Q ls C h1 h2 h3 h4 h5 h6 h7 h8 h9 hr
  obtain ⟨ha, hlo⟩ := am_lo (am_hd (am_tl h6)) hk (by omega)
  have eA : am_v G (.ref a) = .ref (am_ph G a) := by show Value.ref (am_ad G a) = _; rw [am_ad_lo hlo]
  show W p l e R s m args below meth c H locs cells slots Q (F0 m pc ls (am_v G v :: am_v G (.ref a) :: r.map (am_v G)))
  rw [eA]
  have setI : ∀ x : Int32, am_ft (q / 64) (q % 64) = 0 ∨ am_ft (q / 64) (q % 64) = 3 → am_E G (am_sI σ a (va_up (am_I σ a) (q % 64) x)) a = .inr (q / 64, ((List.range (am_fn (q / 64))).map (am_fv G σ (q / 64) a)).set (q % 64) (.int x)) := by
    intro x hf
    have eI : am_I (am_sI σ a (va_up (am_I σ a) (q % 64) x)) a = va_up (am_I σ a) (q % 64) x := if_pos rfl
    rw [am_E_o hk hci, am_fs_set (σ := σ) hkn]
    · congr 3
      unfold am_fv
      rw [eI]
      have e2 : va_up (am_I σ a) (q % 64) x (q % 64) = x := if_pos rfl
      rw [e2]
      rcases hf with hf | hf <;> (rw [hf]; try rfl)
    · intro j hj
      unfold am_fv
      rw [eI]
      have e2 : va_up (am_I σ a) (q % 64) x j = am_I σ a j := if_neg hj
      rw [e2]
      rfl
  split at hB
  · rename_i hf
    split at hB
    · rename_i x
      refine am_putW C h5 ha hk hci hkn hfl hfin (by rw [t0 hf]; rfl) (by rw [t0 hf]; rfl) hdg fun H1 L eL z1 o1 e1 => ?_
      exact hB G p l e R s m args below meth c H1 _ cells slots Q ls C h1 h2 h3 h4 (am_Rp_i h5 ha z1 o1 (by rw [setI x (Or.inl hf)]; exact e1)) (am_tl (am_tl h6)) h7 (by obtain ⟨Lb, Ls⟩ := L; cases eL; exact h8.put z1 o1 (Nat.le_add_right _ _)) h9 hr
    · exact hB.elim
  · rename_i hf
    split at hB
    · rename_i x
      refine am_putW C h5 ha hk hci hkn hfl hfin (by rw [t1 hf]; rfl) (by rw [t1 hf]; rfl) hdg fun H1 L eL z1 o1 e1 => ?_
      have eI : am_L (am_sL σ a (va_up (am_L σ a) (q % 64) x)) a = va_up (am_L σ a) (q % 64) x := if_pos rfl
      have set : am_E G (am_sL σ a (va_up (am_L σ a) (q % 64) x)) a = .inr (q / 64, ((List.range (am_fn (q / 64))).map (am_fv G σ (q / 64) a)).set (q % 64) (.long x)) := by
        rw [am_E_o hk hci, am_fs_set (σ := σ) hkn]
        · congr 3
          unfold am_fv
          rw [eI]
          have e2 : va_up (am_L σ a) (q % 64) x (q % 64) = x := if_pos rfl
          rw [e2, hf]
          try rfl
        · intro j hj
          unfold am_fv
          rw [eI]
          have e2 : va_up (am_L σ a) (q % 64) x j = am_L σ a j := if_neg hj
          rw [e2]
          rfl
      exact hB G p l e R s m args below meth c H1 _ cells slots Q ls C h1 h2 h3 h4 (am_Rp_l h5 ha z1 o1 (by rw [set]; exact e1)) (am_tl (am_tl h6)) h7 (by obtain ⟨Lb, Ls⟩ := L; cases eL; exact h8.put z1 o1 (Nat.le_add_right _ _)) h9 hr
    · exact hB.elim
  · rename_i hf
    split at hB
    · rename_i b
      obtain ⟨hbo, hB⟩ := am_b_e hB
      have hbo : b < am_old := Nat.le_of_ble_eq_true hbo
      have hbn : am_pm b < am_n σ := by
        have hv : am_pm b < am_n σ ∨ am_old ≤ b := am_hd h6
        rcases hv with hv | hv
        · exact hv
        · exact absurd hv (Nat.not_le.mpr hbo)
      have eB : am_v G (.ref b) = .ref (am_ph G b) := by show Value.ref (am_ad G b) = _; rw [am_ad_lo hbo]
      rw [eB]
      refine am_putW C h5 ha hk hci hkn hfl hfin (am_fits_ref (t2 hf)).1 (am_fits_ref (t2 hf)).2 hdg fun H1 L eL z1 o1 e1 => ?_
      have eI : am_R (am_sR σ a (va_up (am_R σ a) (q % 64) (some b))) a = va_up (am_R σ a) (q % 64) (some b) := if_pos rfl
      have set : am_E G (am_sR σ a (va_up (am_R σ a) (q % 64) (some b))) a = .inr (q / 64, ((List.range (am_fn (q / 64))).map (am_fv G σ (q / 64) a)).set (q % 64) (.ref (am_ph G b))) := by
        rw [am_E_o hk hci, am_fs_set (σ := σ) hkn]
        · congr 3
          unfold am_fv
          rw [eI]
          have e2 : va_up (am_R σ a) (q % 64) (some b) (q % 64) = some b := if_pos rfl
          rw [e2, hf]
          rfl
        · intro j hj
          unfold am_fv
          rw [eI]
          have e2 : va_up (am_R σ a) (q % 64) (some b) j = am_R σ a j := if_neg hj
          rw [e2]
          rfl
      exact hB G p l e R s m args below meth c H1 _ cells slots Q ls C h1 h2 h3 h4 (am_Rp_r h5 ha hbn z1 o1 (by rw [set]; exact e1)) (am_tl (am_tl h6)) h7 (by obtain ⟨Lb, Ls⟩ := L; cases eL; exact h8.put z1 o1 (Nat.le_add_right _ _)) h9 hr
    · exact hB.elim
  · rename_i n0 n1 n2
    have hf : am_ft (q / 64) (q % 64) = 3 ∧ am_ty (q / 64) (q % 64) = .boolean := by
      rcases t3 with t | t | t | t
      · exact absurd t n0
      · exact absurd t n1
      · exact absurd t n2
      · exact t
    split at hB
    · rename_i x
      obtain ⟨hx01, hB⟩ := hB
      refine am_putW C h5 ha hk hci hkn hfl hfin (by rw [hf.2]; rcases hx01 with rfl | rfl <;> rfl) (by rw [hf.2]; rcases hx01 with rfl | rfl <;> rfl) hdg fun H1 L eL z1 o1 e1 => ?_
      exact hB G p l e R s m args below meth c H1 _ cells slots Q ls C h1 h2 h3 h4 (am_Rp_i h5 ha z1 o1 (by rw [setI x (Or.inr hf.1)]; exact e1)) (am_tl (am_tl h6)) h7 (by obtain ⟨Lb, Ls⟩ := L; cases eL; exact h8.put z1 o1 (Nat.le_add_right _ _)) h9 hr
    · exact hB.elim
end AMN
