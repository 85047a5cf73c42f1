/-! noon -/
theorem wT_pA {st tc : Nat → Nat} {g x j : Nat} (hk : stok st tc) (hx : x < 8) (hf : (wB st (wD st tc g) x 8).1 < 100000000) (hj : j < wS st tc (wD st tc g) g (8 * x + (wB st (wD st tc g) x 8).2)) : wT (wR st tc g x) j = 8 * pA st tc (wD st tc g) (8 * x + (wB st (wD st tc g) x 8).2) j + nxt st tc (wD st tc g) (pA st tc (wD st tc g) (8 * x + (wB st (wD st tc g) x 8).2) j) := by
  have hD := wD_is st tc g
  obtain ⟨w1, w2, w3⟩ := wB_sp st (wD st tc g) x 8
  obtain ⟨v1, v2, v3⟩ := w3 hf
  have ha0 : 8 * x + (wB st (wD st tc g) x 8).2 < 64 := by omega
  have hfa : wD st tc g (8 * x + (wB st (wD st tc g) x 8).2) < 100000000 := by omega
  obtain ⟨s1, s2, s3⟩ := wS_sp hD hk ha0 v2 hfa
  obtain ⟨a1, a2, a3⟩ := wR_arc (st := st) (tc := tc) (g := g) (x := x) (i := j) hk hx hf (by omega)
  obtain ⟨p1, p2, p3, p4, p5⟩ := pA_sp hD ha0 v2 hfa j (fun l h => s3 l (by omega))
  have n1 := (nxt_sp hD p1 p2 p3 (s3 j hj)).1
  have r2 : wR st tc g x (j + 2) = nxt st tc (wD st tc g) (pA st tc (wD st tc g) (8 * x + (wB st (wD st tc g) x 8).2) j) := by
    show (8 * (pA st tc (wD st tc g) (8 * x + (wB st (wD st tc g) x 8).2) j % 8) + nxt st tc (wD st tc g) (pA st tc (wD st tc g) (8 * x + (wB st (wD st tc g) x 8).2) j)) % 8 = _
    omega
  unfold wT
  rw [r2]
  omega
/-- what is bought is the turns without a use -/
theorem wC_z {st nw : Nat → Nat} {g x : Nat} (hk : stok st (tcf nw 1)) (hx : x < 8) (hf : wC st (tcf nw 1) g x < 100000000) : wC st (tcf nw 1) g x / 1000000 = cn (fun i => decide (nw (wT (wR st (tcf nw 1) g x) i) = 0)) (wL st (tcf nw 1) g x - 2) := by
  by_cases hxg : x = g
  · have e1 : wC st (tcf nw 1) g x = 0 := if_pos hxg
    have e2 : wL st (tcf nw 1) g x = 1 := if_pos hxg
    rw [e1, e2]
    rfl
  · have e1 : wC st (tcf nw 1) g x = (wB st (wD st (tcf nw 1) g) x 8).1 := if_neg hxg
    have e2 : wL st (tcf nw 1) g x = wS st (tcf nw 1) (wD st (tcf nw 1) g) g (8 * x + (wB st (wD st (tcf nw 1) g) x 8).2) + 2 := if_neg hxg
    rw [e1] at hf ⊢
    rw [e2, Nat.add_sub_cancel]
    have hT := fun j hj => wT_pA (j := j) hk hx hf hj
    have hD := wD_is st (tcf nw 1) g
    generalize wR st (tcf nw 1) g x = R at hT ⊢
    generalize wD st (tcf nw 1) g = D at hT hf hD ⊢
    obtain ⟨w1, w2, w3⟩ := wB_sp st D x 8
    obtain ⟨v1, v2, v3⟩ := w3 hf
    have ha0 : 8 * x + (wB st D x 8).2 < 64 := by omega
    have hfa : D (8 * x + (wB st D x 8).2) < 100000000 := by omega
    obtain ⟨s1, s2, s3⟩ := wS_sp hD hk ha0 v2 hfa
    have key : ∀ d i, i + d = wS st (tcf nw 1) D g (8 * x + (wB st D x 8).2) → ∃ l s, D (pA st (tcf nw 1) D (8 * x + (wB st D x 8).2) i) + 1000000 * cn (fun i => decide (nw (wT R i) = 0)) i = 1000000 * cn (fun i => decide (nw (wT R i) = 0)) (wS st (tcf nw 1) D g (8 * x + (wB st D x 8).2)) + 100 * l + s ∧ l ≤ 9 * d ∧ s ≤ d := by
      intro d
      induction d with
      | zero =>
        intro i hi
        have hi2 : i = wS st (tcf nw 1) D g (8 * x + (wB st D x 8).2) := by omega
        obtain ⟨p1, p2, p3, p4, p5⟩ := pA_sp hD ha0 v2 hfa i (fun l h => s3 l (by omega))
        have h0 := (hD _ p1 p2).2.1 (by rw [hi2]; exact s2)
        rw [h0, hi2]
        exact ⟨0, 0, by omega, by omega, by omega⟩
      | succ d ih =>
        intro i hi
        obtain ⟨l, s, h1, h2, h3⟩ := ih (i + 1) (by omega)
        obtain ⟨p1, p2, p3, p4, p5⟩ := pA_sp hD ha0 v2 hfa i (fun l h => s3 l (by omega))
        obtain ⟨n1, n2, n3, n4, n5⟩ := nxt_sp hD p1 p2 p3 (s3 i (by omega))
        have hTi := hT i (by omega)
        have hcs : cn (fun i => decide (nw (wT R i) = 0)) (i + 1) = cn (fun i => decide (nw (wT R i) = 0)) i + (if decide (nw (wT R i) = 0) = true then 1 else 0) := rfl
        have hpa : pA st (tcf nw 1) D (8 * x + (wB st D x 8).2) (i + 1) = 8 * (pA st (tcf nw 1) D (8 * x + (wB st D x 8).2) i % 8) + nxt st (tcf nw 1) D (pA st (tcf nw 1) D (8 * x + (wB st D x 8).2) i) := rfl
        rw [hpa] at h1
        generalize nxt st (tcf nw 1) D (pA st (tcf nw 1) D (8 * x + (wB st D x 8).2) i) = zz at n1 n2 n3 n4 h1 hTi
        generalize pA st (tcf nw 1) D (8 * x + (wB st D x 8).2) i = aa at p1 p2 p3 n2 n3 n4 h1 hTi ⊢
        have h9 := hk.1 (8 * (aa % 8) + zz) (by omega)
        unfold sC tcf at n4
        rw [← hTi] at n4
        by_cases hz : 0 < nw (wT R i)
        · rw [if_pos hz] at n4
          rw [if_neg (by rw [decide_eq_true_eq]; omega)] at hcs
          exact ⟨l + st (8 * (aa % 8) + zz), s + 1, by omega, by omega, by omega⟩
        · rw [if_neg hz, if_pos rfl] at n4
          rw [if_pos (by rw [decide_eq_true_eq]; omega)] at hcs
          exact ⟨l + st (8 * (aa % 8) + zz), s + 1, by omega, by omega, by omega⟩
    obtain ⟨l, s, h1, h2, h3⟩ := key (wS st (tcf nw 1) D g (8 * x + (wB st D x 8).2)) 0 (by omega)
    have h9 := hk.1 _ ha0
    have h4 : D (8 * x + (wB st D x 8).2) + 1000000 * 0 = 1000000 * cn (fun i => decide (nw (wT R i) = 0)) (wS st (tcf nw 1) D g (8 * x + (wB st D x 8).2)) + 100 * l + s := h1
    rw [v3]
    omega
noncomputable def noF (t : tw) (b : Nat → Bool) (j : Nat) (s : Option ((Nat → Nat) × Nat)) : Option ((Nat → Nat) × Nat) := match s with
  | none => none
  | some p => if b j = true then (if wC (t 1) (tcf p.1 1) (t 5 j) (t 4 j) < 100000000 then some (spd (fun v => v - 1) p.1 (wR (t 1) (tcf p.1 1) (t 5 j) (t 4 j)) (wL (t 1) (tcf p.1 1) (t 5 j) (t 4 j) - 2), p.2 + wC (t 1) (tcf p.1 1) (t 5 j) (t 4 j) / 1000000) else none) else some p
noncomputable def noA (t : tw) (b : Nat → Bool) : Nat → Option ((Nat → Nat) × Nat) := acc (noF t b) (some (t 3, 0))
def noR (s : Option ((Nat → Nat) × Nat)) : Int32 := match s with
  | none => -1
  | some p => nI p.2
theorem noA_n {t : tw} {b : Nat → Bool} {j : Nat} (h : noA t b j = none) : ∀ d, noA t b (j + d) = none := by
  intro d
  induction d with
  | zero => exact h
  | succ d ih =>
    show noF t b (j + d) (noA t b (j + d)) = none
    rw [ih]
    rfl
def noB (v1 : Int32) (j : Nat) : Bool := decide ((v1 >>> (nI j &&& 31)) &&& nI 1 = nI 1)
theorem c_noonC {e : am_V} {I : Nat → Nat → Int32} {L : Nat → Nat → Int64} {Q : Int32 → (Nat → Nat → Int32) → Prop} {t : tw} {v1 : Int32} (hC : CT t I) (hk : tok t) (hQ : ∀ J, fr [2, 38, 39, 40] [] I J → Q (noR (noA t (noB v1) (t 0 4))) J) : T_X10_noon_0_p48 e v1 (nI 0) (nI 0) (va_up I 2 (va_cpy (I 10) (I 2) 0 0 512)) L Q := by
  have hC2 := hC
  have hk2 := hk
  obtain ⟨c0, c1, c2, c3, c4, c5, c6, c7, c8, cS, cD, cN, cA, cT, cM, cR, cF, cO, cH, cL⟩ := hC
  obtain ⟨o0, oT, oZ, oY, oD, o9, oN, o28, oB, oX, oE, oF, oA, oH, oU, oV⟩ := hk
  refine lp_up (n := t 0 4) (S := ((Nat → Nat) × Nat) × (Nat → Nat → Int32)) (T := fun j s => T_X10_noon_0_p48 e v1 (nI s.1.2) (nI j) s.2 L Q) (fun j s => noA t (noB v1) j = some s.1 ∧ fr [2, 38, 39, 40] [] I s.2 ∧ (∀ k, k < 512 → tB t k = true → s.2 2 k = nI (s.1.1 k)) ∧ ∀ k, k < 512 → s.1.1 k ≤ 1000) ?_ ?_ 0 ((t 3, 0), _) (Nat.zero_le _) ⟨rfl, fr_up (fr_refl _ _ _) rfl, ?_, tok_nw hk2⟩
  · rintro j ⟨⟨nw, c⟩, J⟩ hj ⟨i1, i2, i3, i4⟩ hnext
    dsimp only at i1 i2 i3 i4
    have CJ := fr_CT i2 hC2 rfl
    have c7 := CJ.2.2.2.2.2.2.2.1
    have e1 := CJ.2.2.2.2.2.2.2.2.2.2.2.2.2.2.2.2.1 j hj
    have e2 := CJ.2.2.2.2.2.2.2.2.2.2.2.2.2.2.2.2.2.1 j hj
    obtain ⟨a1, a2, a3, a4⟩ := oF j hj
    have q1 : (t 0 4 ≤ j) = False := eq_false (by omega)
    have hS := tok_sf hk2 nw 1
    have es : noA t (noB v1) (j + 1) = noF t (noB v1) j (some (nw, c)) := by
      show noF t (noB v1) j (noA t (noB v1) j) = _
      rw [i1]
    refine b_X10_noon_0_p48 ?_
    simp (disch := omega) only [pk_mul, nI_add, ksub, kdv, kd8, kd64, kd2, kd3, km8, km64, kt8, ke8, ke64, kcl, kin, kle, klt, keq, up_s, up_n, up_u, true_and, and_true, false_implies, true_implies, not_false_eq_true, not_true_eq_false, c7, q1, e1, e2]
    refine ⟨fun hb => ?_, fun hb => ?_⟩
    · have hb2 : noB v1 j = true := decide_eq_true hb
      have es2 : noA t (noB v1) (j + 1) = if wC (t 1) (tcf nw 1) (t 5 j) (t 4 j) < 100000000 then some (spd (fun v => v - 1) nw (wR (t 1) (tcf nw 1) (t 5 j) (t 4 j)) (wL (t 1) (tcf nw 1) (t 5 j) (t 4 j) - 2), c + wC (t 1) (tcf nw 1) (t 5 j) (t 4 j) / 1000000) else none := by
        rw [es]
        show (if noB v1 j = true then _ else _) = _
        rw [if_pos hb2]
      refine c_find_2 (nw := nw) (m := 1) CJ hk2 i3 i4 (by decide) (by omega) (by omega) (fun K hf fK k1 k2 k3 => ?_) (fun K hf fK => ?_)
      · rw [tcm_1] at hf k1 k2 k3
        rw [if_pos hf] at es2
        refine ⟨fun h => absurd h (by decide), fun _ => ?_⟩
        obtain ⟨l1, l2⟩ := wL_b hS (show t 4 j < 8 from by omega) hf
        obtain ⟨wk, _⟩ := wR_ok hS (show t 4 j < 8 from by omega) hf
        have h2 : ∀ k, k < 512 → tB t k = true → K 2 k = nI (nw k) := fun k hk5 hp => by
          rw [fK.1 2 (by decide) (by decide)]
          exact i3 k hk5 hp
        rw [k2, wbuy_c hS (by omega) hf]
        have hrun := c_spend_2 (e := e) (I := K) (L := L) (t := t) (nw := nw) (R := wR (t 1) (tcf nw 1) (t 5 j) (t 4 j)) (len := wL (t 1) (tcf nw 1) (t 5 j) (t 4 j)) (m := wL (t 1) (tcf nw 1) (t 5 j) (t 4 j) - 2) (F := K 2) (Q := fun I10 => T_X10_noon_0_p48 e v1 (nI c + nI (wC (t 1) (tcf nw 1) (t 5 j) (t 4 j) / 1000000)) (nI (j + 1)) I10 L Q) k1 k3 (by omega) rfl wk i4 h2 (fun F' hF' => ?_)
        · rw [up_id] at hrun
          exact hrun
        · rw [nI_add]
          refine hnext ((_, _), va_up K 2 F') ⟨es2, fr_up (fr_trans i2 (fr_mono fK rfl rfl)) rfl, hF', ?_⟩
          exact spd_b (f := fun v => v - 1) i4 (fun v hv => by show v - 1 ≤ _; omega)
      · rw [tcm_1] at hf
        rw [if_neg hf] at es2
        refine ⟨fun _ => ?_, fun h => absurd rfl h⟩
        have h5 := noA_n es2 (t 0 4 - (j + 1))
        rw [show j + 1 + (t 0 4 - (j + 1)) = t 0 4 from by omega] at h5
        have h6 := hQ K (fr_trans i2 (fr_mono fK rfl rfl))
        rw [h5] at h6
        exact h6
    · have hb2 : ¬ noB v1 j = true := fun h => hb (of_decide_eq_true h)
      refine hnext ((nw, c), J) ⟨?_, i2, i3, i4⟩
      rw [es]
      show (if noB v1 j = true then _ else _) = _
      rw [if_neg hb2]
  · rintro ⟨⟨nw, c⟩, J⟩ ⟨i1, i2, i3, i4⟩
    dsimp only at i1 i2 i3 i4
    have CJ := fr_CT i2 hC2 rfl
    have c7 := CJ.2.2.2.2.2.2.2.1
    have q1 : (t 0 4 ≤ t 0 4) = True := eq_true (Nat.le_refl _)
    refine b_X10_noon_0_p48 ?_
    simp (disch := omega) only [pk_mul, nI_add, ksub, kdv, kd8, kd64, kd2, kd3, km8, km64, kt8, ke8, ke64, kcl, kin, kle, klt, keq, up_s, up_n, up_u, true_and, and_true, false_implies, true_implies, not_false_eq_true, not_true_eq_false, c7, q1]
    have h6 := hQ J i2
    rw [i1] at h6
    exact h6
  · intro k hk5 hp
    show va_cpy (I 10) (I 2) 0 0 512 k = _
    rw [cpy0 hk5]
    exact cR k hk5 hp
theorem c_noonM {e : am_V} {I : Nat → Nat → Int32} {L : Nat → Nat → Int64} {Q : Int32 → (Nat → Nat → Int32) → Prop} {t : tw} {v1 : Int32} (hM : MT t I) (hk : tok t) (hQ : ∀ J, fr [87, 88, 89] [27, 28] I J → Q (noR (noA t (noB v1) (t 0 4))) J) : C_X11_asLeft_73 e I L (fun I2 => T_X11_noon_73_p43 e v1 (nI 0) (nI 0) I2 L Q) := by
  have hM2 := hM
  have hk2 := hk
  obtain ⟨m0, m1, m2, m3, m4, m5, mS, mU, mL, mF, mO, mH, mA, mK⟩ := hM
  obtain ⟨o0, oT, oZ, oY, oD, o9, oN, o28, oB, oX, oE, oF, oA, oH, oU, oV⟩ := hk
  refine c_asLeft mL (fun F0 hF0 => ?_)
  refine lp_up (n := t 0 4) (S := ((Nat → Nat) × Nat) × (Nat → Nat → Int32)) (T := fun j s => T_X11_noon_73_p43 e v1 (nI s.1.2) (nI j) s.2 L Q) (fun j s => noA t (noB v1) j = some s.1 ∧ fr [87, 88, 89] [27, 28] I s.2 ∧ (∀ k, k < 512 → s.2 87 k = nI (s.1.1 k)) ∧ ∀ k, k < 512 → s.1.1 k ≤ 1000) ?_ ?_ 0 ((t 3, 0), _) (Nat.zero_le _) ⟨rfl, fr_up (fr_refl _ _ _) rfl, hF0, tok_nw hk2⟩
  · rintro j ⟨⟨nw, c⟩, J⟩ hj ⟨i1, i2, i3, i4⟩ hnext
    dsimp only at i1 i2 i3 i4
    have MJ := fr_MT i2 hM2 rfl
    have m4 := MJ.2.2.2.2.1
    have e1 := MJ.2.2.2.2.2.2.2.2.2.1 j hj
    have e2 := MJ.2.2.2.2.2.2.2.2.2.2.1 j hj
    obtain ⟨a1, a2, a3, a4⟩ := oF j hj
    have q1 : (t 0 4 ≤ j) = False := eq_false (by omega)
    have hS := tok_sf hk2 nw 1
    have es : noA t (noB v1) (j + 1) = noF t (noB v1) j (some (nw, c)) := by
      show noF t (noB v1) j (noA t (noB v1) j) = _
      rw [i1]
    refine b_X11_noon_73_p43 ?_
    simp (disch := omega) only [pk_mul, nI_add, ksub, kdv, kd8, kd64, kd2, kd3, km8, km64, kt8, ke8, ke64, kcl, kin, kle, klt, keq, up_s, up_n, up_u, true_and, and_true, false_implies, true_implies, not_false_eq_true, not_true_eq_false, m4, q1, e1, e2]
    refine ⟨fun hb => ?_, fun hb => ?_⟩
    · have hb2 : noB v1 j = true := decide_eq_true hb
      have es2 : noA t (noB v1) (j + 1) = if wC (t 1) (tcf nw 1) (t 5 j) (t 4 j) < 100000000 then some (spd (fun v => v - 1) nw (wR (t 1) (tcf nw 1) (t 5 j) (t 4 j)) (wL (t 1) (tcf nw 1) (t 5 j) (t 4 j) - 2), c + wC (t 1) (tcf nw 1) (t 5 j) (t 4 j) / 1000000) else none := by
        rw [es]
        show (if noB v1 j = true then _ else _) = _
        rw [if_pos hb2]
      have hmw : mwQ J (t 1) nw (t 0 0) := by
        have h5 := MT_mwQ (F := J 87) MJ hk2 i3 i4
        rw [up_id] at h5
        exact h5
      refine c_waysTo (b := 1) hmw hS.2.1 a1 a2 (Or.inr rfl) (fun K fK hK => ?_)
      have g2 := wC_le (t 1) (tcf nw 1) (t 5 j) (t 4 j)
      rw [klt (by omega) (by decide)]
      have fK3 := fr_trans i2 (fr_mono (S' := [87, 88, 89]) (F' := [27, 28]) fK rfl rfl)
      refine ⟨fun hf => ?_, fun hf => ?_⟩
      · obtain ⟨k1, k3⟩ := hK hf
        rw [if_pos hf, wC_z hS (by omega) hf] at es2
        obtain ⟨l1, l2⟩ := wL_b hS (show t 4 j < 8 from by omega) hf
        obtain ⟨wk, _⟩ := wR_ok hS (show t 4 j < 8 from by omega) hf
        have h2 : ∀ k, k < 512 → K 87 k = nI (nw k) := fun k hk5 => by
          rw [fK.1 87 (by decide) (by decide)]
          exact i3 k hk5
        generalize wR (t 1) (tcf nw 1) (t 5 j) (t 4 j) = R at es2 k3 wk
        generalize wL (t 1) (tcf nw 1) (t 5 j) (t 4 j) = len at es2 k1 k3 wk l1 l2
        have hrun : T_X11_noon_73_p98 e v1 (nI c) (nI j) (nI 0) (va_up K 87 (K 87)) L Q := by
          refine lp_up (n := len - 2) (S := Nat × (Nat → Int32)) (T := fun i s => T_X11_noon_73_p98 e v1 (nI s.1) (nI j) (nI i) (va_up K 87 s.2) L Q) (fun i s => s.1 = c + cn (fun i => decide (nw (wT R i) = 0)) i ∧ ∀ k, k < 512 → s.2 k = nI (spd (fun v => v - 1) nw R i k)) ?_ ?_ 0 (c, K 87) (Nat.zero_le _) ⟨rfl, h2⟩
          · rintro i ⟨c', F⟩ hi ⟨u1, u2⟩ hnext2
            dsimp only at u1 u2
            have r0 := k3 i (by omega)
            have r1 := k3 (i + 1) (by omega)
            have r2 := k3 (i + 2) (by omega)
            have z0 := wk.1 i
            have z1 := wk.1 (i + 1)
            have z2 := wk.1 (i + 2)
            have hT5 := wT_b (j := i) wk
            have e1 : F (64 * R i + 8 * R (i + 1) + R (i + 2)) = nI (nw (64 * R i + 8 * R (i + 1) + R (i + 2))) := by
              have h5 := u2 (wT R i) hT5
              rw [spd_n wk hi] at h5
              exact h5
            have hbb := i4 (64 * R i + 8 * R (i + 1) + R (i + 2)) (by omega)
            have q1 : (len ≤ i + 2) = False := eq_false (by omega)
            have hcs : cn (fun i => decide (nw (wT R i) = 0)) (i + 1) = cn (fun i => decide (nw (wT R i) = 0)) i + (if decide (nw (wT R i) = 0) = true then 1 else 0) := rfl
            refine b_X11_noon_73_p98 ?_
            simp (disch := omega) only [pk_mul, nI_add, ksub, kdv, kd8, kd64, kd2, kd3, km8, km64, kt8, ke8, ke64, kcl, kin, kle, klt, keq, up_s, up_n, up_u, true_and, and_true, false_implies, true_implies, not_false_eq_true, not_true_eq_false, k1, q1, r0, r1, r2, e1]
            refine ⟨fun hz => ?_, fun hz => ?_⟩
            · have hz2 : nw (wT R i) = 0 := hz
              rw [if_pos (decide_eq_true hz2)] at hcs
              refine hnext2 (c' + 1, F) ⟨by show c' + 1 = _; omega, fun k hk5 => ?_⟩
              by_cases he : k = wT R i
              · rw [he, spd_e, hz2]
                show F (wT R i) = _
                have h5 := u2 (wT R i) hT5
                rw [spd_n wk hi, hz2] at h5
                exact h5
              · rw [spd_o he]
                exact u2 k hk5
            · have hz2 : ¬ nw (wT R i) = 0 := hz
              rw [if_neg (by rw [decide_eq_true_eq]; exact hz2)] at hcs
              have hz3 : 1 ≤ nw (64 * R i + 8 * R (i + 1) + R (i + 2)) := by omega
              simp (disch := omega) only [pk_mul, nI_add, ksub, kdv, kd8, kd64, kd2, kd3, km8, km64, kt8, ke8, ke64, kcl, kin, kle, klt, keq, up_s, up_n, up_u, true_and, and_true, false_implies, true_implies, not_false_eq_true, not_true_eq_false]
              refine hnext2 (c', va_up F (64 * R i + 8 * R (i + 1) + R (i + 2)) (nI (nw (64 * R i + 8 * R (i + 1) + R (i + 2)) - 1))) ⟨by show c' = _; omega, fun k hk5 => ?_⟩
              show va_up F (wT R i) (nI (nw (wT R i) - 1)) k = _
              by_cases he : k = wT R i
              · rw [he, spd_e, up_s]
              · rw [spd_o he, up_n he]
                exact u2 k hk5
          · rintro ⟨c', F⟩ ⟨u1, u2⟩
            dsimp only at u1 u2
            have q1 : (len ≤ len - 2 + 2) = True := eq_true (by omega)
            refine b_X11_noon_73_p98 ?_
            simp (disch := omega) only [pk_mul, nI_add, ksub, kdv, kd8, kd64, kd2, kd3, km8, km64, kt8, ke8, ke64, kcl, kin, kle, klt, keq, up_s, up_n, up_u, true_and, and_true, false_implies, true_implies, not_false_eq_true, not_true_eq_false, k1, q1]
            refine hnext ((spd (fun v => v - 1) nw R (len - 2), c'), va_up K 87 F) ⟨?_, fr_up fK3 rfl, u2, spd_b (f := fun v => v - 1) i4 (fun v hv => by show v - 1 ≤ _; omega)⟩
            rw [es2, u1]
        rw [up_id] at hrun
        exact hrun
      · rw [if_neg hf] at es2
        have h5 := noA_n es2 (t 0 4 - (j + 1))
        rw [show j + 1 + (t 0 4 - (j + 1)) = t 0 4 from by omega] at h5
        have h6 := hQ K fK3
        rw [h5] at h6
        exact h6
    · have hb2 : ¬ noB v1 j = true := fun h => hb (of_decide_eq_true h)
      refine hnext ((nw, c), J) ⟨?_, i2, i3, i4⟩
      rw [es]
      show (if noB v1 j = true then _ else _) = _
      rw [if_neg hb2]
  · rintro ⟨⟨nw, c⟩, J⟩ ⟨i1, i2, i3, i4⟩
    dsimp only at i1 i2 i3 i4
    have MJ := fr_MT i2 hM2 rfl
    have m4 := MJ.2.2.2.2.1
    have q1 : (t 0 4 ≤ t 0 4) = True := eq_true (Nat.le_refl _)
    refine b_X11_noon_73_p43 ?_
    simp (disch := omega) only [pk_mul, nI_add, ksub, kdv, kd8, kd64, kd2, kd3, km8, km64, kt8, ke8, ke64, kcl, kin, kle, klt, keq, up_s, up_n, up_u, true_and, and_true, false_implies, true_implies, not_false_eq_true, not_true_eq_false, m4, q1]
    have h6 := hQ J i2
    rw [i1] at h6
    exact h6
theorem q_noon {e : am_V} {I : Nat → Nat → Int32} {L : Nat → Nat → Int64} {t : tw} {Q : Int32 → Int32 → (Nat → Nat → Int32) → Prop} {v1 : Int32} (hC : CT t I) (hM : MT t I) (hk : tok t) (hQ : ∀ r J, fr SC FC I J → Q r r J) : C_X10_noon_0 e v1 I L (fun r J => C_X11_noon_73 e v1 J L (fun r' K => Q r r' K)) := by
  have hC2 := hC
  have hM2 := hM
  have hk2 := hk
  obtain ⟨c0, c1, c2, c3, c4, c5, c6, c7, c8, cS, cD, cN, cA, cT, cM, cR, cF, cO, cH, cL⟩ := hC
  obtain ⟨m0, m1, m2, m3, m4, m5, mS, mU, mL, mF, mO, mH, mA, mK⟩ := hM
  obtain ⟨o0, oT, oZ, oY, oD, o9, oN, o28, oB, oX, oE, oF, oA, oH, oU, oV⟩ := hk
  have f0 : fr SC FC I (va_up I 73 (va_up (I 73) 0 (nI 0))) := fr_73 (fr_refl _ _ _) rfl
  have sh := ksh (t 0 4) (by omega)
  have hP1 : 1 ≤ 2 ^ t 0 4 := Nat.one_le_two_pow
  have hP2 : 2 ^ t 0 4 ≤ 2 ^ 6 := Nat.pow_le_pow_right (by decide) oE
  rw [show (2 : Nat) ^ 6 = 64 from rfl] at hP2
  generalize 2 ^ t 0 4 = P at sh hP1 hP2
  by_cases h0 : t 0 0 ≤ 0
  · have g0 := eq_true h0
    have g1 : (t 0 3 ≤ 0) = True := eq_true (by omega)
    (refine b_X10_noon_0 ?_; simp (disch := omega) only [pk_mul, nI_add, ksub, kdv, kd8, kd64, kd2, kd3, km8, km64, kt8, ke8, ke64, kcl, kin, kle, klt, keq, up_s, up_n, up_u, true_and, and_true, false_implies, true_implies, not_false_eq_true, not_true_eq_false, c0, g0]; refine b_X11_noon_73 ?_; simp (disch := omega) only [pk_mul, nI_add, ksub, kdv, kd8, kd64, kd2, kd3, km8, km64, kt8, ke8, ke64, kcl, kin, kle, klt, keq, up_s, up_n, up_u, true_and, and_true, false_implies, true_implies, not_false_eq_true, not_true_eq_false, m0, g1]; exact hQ _ _ f0)
  · have g0 := eq_false h0
    have g1 : (t 0 3 ≤ 0) = False := eq_false (by omega)
    rcases crs v1 P (by omega) with ax | ⟨ax, dx⟩ | ⟨x, hx, rfl⟩
    · (refine b_X10_noon_0 ?_; simp (disch := omega) only [pk_mul, nI_add, ksub, kdv, kd8, kd64, kd2, kd3, km8, km64, kt8, ke8, ke64, kcl, kin, kle, klt, keq, up_s, up_n, up_u, true_and, and_true, false_implies, true_implies, not_false_eq_true, not_true_eq_false, c0, g0, ax]; refine b_X11_noon_73 ?_; simp (disch := omega) only [pk_mul, nI_add, ksub, kdv, kd8, kd64, kd2, kd3, km8, km64, kt8, ke8, ke64, kcl, kin, kle, klt, keq, up_s, up_n, up_u, true_and, and_true, false_implies, true_implies, not_false_eq_true, not_true_eq_false, m0, g1, kzl, ax]; exact hQ _ _ f0)
    · have dx2 := eq_false (i32_nlt dx)
      (refine b_X10_noon_0 ?_; simp (disch := omega) only [pk_mul, nI_add, ksub, kdv, kd8, kd64, kd2, kd3, km8, km64, kt8, ke8, ke64, kcl, kin, kle, klt, keq, up_s, up_n, up_u, true_and, and_true, false_implies, true_implies, not_false_eq_true, not_true_eq_false, c0, c7, g0, sh, ax, dx2]; refine b_X11_noon_73 ?_; simp (disch := omega) only [pk_mul, nI_add, ksub, kdv, kd8, kd64, kd2, kd3, km8, km64, kt8, ke8, ke64, kcl, kin, kle, klt, keq, up_s, up_n, up_u, true_and, and_true, false_implies, true_implies, not_false_eq_true, not_true_eq_false, m0, m4, g1, sh, kzl, kcz1, kcz3, ax, dx]; exact hQ _ _ f0)
    · have gx : (x < P) = True := eq_true hx
      have gx2 : (P ≤ x) = False := eq_false (by omega)
      refine b_X10_noon_0 ?_
      simp (disch := omega) only [pk_mul, nI_add, ksub, kdv, kd8, kd64, kd2, kd3, km8, km64, kt8, ke8, ke64, kcl, kin, kle, klt, keq, up_s, up_n, up_u, true_and, and_true, false_implies, true_implies, not_false_eq_true, not_true_eq_false, c0, c7, g0, sh, gx, knl]
      refine c_noonC hC2 hk2 (fun J fJ => ?_)
      have MJ := fr_MT fJ hM2 rfl
      have m0J := MJ.1
      have m4J := MJ.2.2.2.2.1
      refine b_X11_noon_73 ?_
      simp (disch := omega) only [pk_mul, nI_add, ksub, kdv, kd8, kd64, kd2, kd3, km8, km64, kt8, ke8, ke64, kcl, kin, kle, klt, keq, up_s, up_n, up_u, true_and, and_true, false_implies, true_implies, not_false_eq_true, not_true_eq_false, m0J, m4J, g1, sh, kzl, kcz1, kcz3, knl, gx2]
      refine c_noonM (MT_0 MJ) hk2 (fun K fK => ?_)
      exact hQ _ _ (fr_q1 fJ fK rfl rfl rfl rfl)
