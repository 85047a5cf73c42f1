/-! ways asked: bare, way, stop, streets, buy, bought, lane (by gen_wayq.py) -/
theorem c_asLeft {e : am_V} {I : Nat → Nat → Int32} {L : Nat → Nat → Int64} {Q : (Nat → Nat → Int32) → Prop} {lf : Nat → Nat} (h83 : ∀ k, k < 512 → I 83 k = nI (lf k)) (hQ : ∀ F', (∀ k, k < 512 → F' k = nI (lf k)) → Q (va_up I 87 F')) : C_X11_asLeft_73 e I L Q := by
  refine b_X11_asLeft_73 ?_
  have h0 : T_X11_asLeft_73_p2 e (nI 0) (va_up I 87 (I 87)) L Q := by
    refine lp_up (n := 512) (S := Nat → Int32) (T := fun k F => T_X11_asLeft_73_p2 e (nI k) (va_up I 87 F) L Q) (fun k F => ∀ j, j < k → F j = nI (lf j)) ?_ ?_ 0 (I 87) (Nat.zero_le _) (fun j h => absurd h (Nat.not_lt_zero _))
    · intro k F hk hi hnext
      refine b_X11_asLeft_73_p2 ?_
      have hnk : (512 ≤ k) = False := eq_false (by omega)
      have e83 := h83 k hk
      simp (disch := omega) only [pk_mul, nI_add, ksub, kdv, kd8, kd64, kd2, kd3, km8, km64, kt8, ke8, ke64, kcl, kin, kle, klt, keq, up_s, up_n, up_u, true_and, and_true, false_implies, true_implies, not_false_eq_true, not_true_eq_false, hnk, e83]
      refine hnext _ (fun j hj => ?_)
      by_cases he : j = k
      · rw [he, up_s]
      · rw [up_n he]; exact hi j (by omega)
    · intro F hi
      refine b_X11_asLeft_73_p2 ?_
      have hnn : (512 ≤ 512) = True := eq_true (Nat.le_refl _)
      simp (disch := omega) only [pk_mul, nI_add, ksub, kdv, kd8, kd64, kd2, kd3, km8, km64, kt8, ke8, ke64, kcl, kin, kle, klt, keq, up_s, up_n, up_u, true_and, and_true, false_implies, true_implies, not_false_eq_true, not_true_eq_false, hnn]
      exact hQ F hi
  rw [up_id] at h0
  exact h0
theorem tok_sf {t : tw} (hk : tok t) (nw : Nat → Nat) (b : Nat) : stok (t 1) (tcf nw b) := ⟨(tok_st hk nw 0).1, (tok_st hk nw 0).2.1, tcf_ok nw b⟩
theorem tok_nw {t : tw} (hk : tok t) : ∀ k, k < 512 → t 3 k ≤ 1000 := by
  obtain ⟨o0, oT, oZ, oY, oD, o9, oN, o28, oB, oX, oE, oF, oA, oH, oU, oV⟩ := hk
  intro k h
  have := (oB k h).2
  omega
theorem MT_mwQ {t : tw} {I : Nat → Nat → Int32} {nw : Nat → Nat} {F : Nat → Int32} (hM : MT t I) (hk : tok t) (hF : ∀ k, k < 512 → F k = nI (nw k)) (hw : ∀ k, k < 512 → nw k ≤ 1000) : mwQ (va_up I 87 F) (t 1) nw (t 0 0) := by
  obtain ⟨m0, m1, m2, m3, m4, m5, mS, mU, mL, mF, mO, mH, mA, mK⟩ := hM
  obtain ⟨o0, oT, oZ, oY, oD, o9, oN, o28, oB, oX, oE, oF, oA, oH, oU, oV⟩ := hk
  exact ⟨m1, mS, hF, o0, o9, hw, oN⟩
theorem c_wayNow {e : am_V} {I : Nat → Nat → Int32} {L : Nat → Nat → Int64} {Q : Int32 → (Nat → Nat → Int32) → Prop} {t : tw} {x g b : Nat} (hM : MT t I) (hk : tok t) (hx : x < t 0 0) (hg : g < t 0 0) (hb : b = 0 ∨ b = 1) (hQ : ∀ J, fr [87, 88, 89] [27, 28] I J → (wC (t 1) (tcf (t 3) b) g x < 100000000 → J 73 27 = nI (wL (t 1) (tcf (t 3) b) g x) ∧ ∀ i, i < wL (t 1) (tcf (t 3) b) g x → J 89 i = nI (wR (t 1) (tcf (t 3) b) g x i)) → Q (nI (wC (t 1) (tcf (t 3) b) g x)) J) : C_X11_asLeft_73 e I L (fun I2 => C_X11_waysTo_73 e (nI x) (nI g) (nI b) I2 L (fun r J => Q r J)) := by
  have hM2 := hM
  obtain ⟨m0, m1, m2, m3, m4, m5, mS, mU, mL, mF, mO, mH, mA, mK⟩ := hM
  refine c_asLeft mL (fun F hF => ?_)
  refine c_waysTo (MT_mwQ hM2 hk hF (tok_nw hk)) (tok_st hk (t 3) 0).2.1 hx hg hb (fun J fJ hJ => hQ J ?_ hJ)
  exact fr_trans (fr_up (fr_refl _ _ _) rfl) (fr_mono fJ rfl rfl)
theorem wC_d {st tc : Nat → Nat} {x g : Nat} (hk : stok st tc) (hx : x < 8) (h : wC st tc g x < 100000000) : ∃ b l s, wC st tc g x = 1000000 * b + 100 * l + s ∧ b ≤ 27 ∧ l ≤ 252 ∧ s ≤ 28 ∧ cv (wC st tc g x) = 1000000 * b + 1000 * l + s := by
  by_cases hxg : x = g
  · have e1 : wC st tc g x = 0 := if_pos hxg
    rw [e1]
    exact ⟨0, 0, 0, rfl, by omega, by omega, by omega, rfl⟩
  · have e1 : wC st tc g x = (wB st (wD st tc g) x 8).1 := if_neg hxg
    rw [e1] at h ⊢
    obtain ⟨b, l, s, h1, h2, h3, h4, h5, h6⟩ := cB_d (wD_is st tc g) hk hx (Nat.le_refl 8) h
    unfold cB at h5
    rw [if_pos h] at h5
    exact ⟨b, l, s, h1, h2, h3, h4, h5⟩
theorem wL_b {st tc : Nat → Nat} {x g : Nat} (hk : stok st tc) (hx : x < 8) (h : wC st tc g x < 100000000) : 1 ≤ wL st tc g x ∧ wL st tc g x ≤ 29 := by
  by_cases hxg : x = g
  · have e2 : wL st tc g x = 1 := if_pos hxg
    omega
  · have e1 : wC st tc g x = (wB st (wD st tc g) x 8).1 := if_neg hxg
    have e2 : wL st tc g x = wS st tc (wD st tc g) g (8 * x + (wB st (wD st tc g) x 8).2) + 2 := if_neg hxg
    rw [e1] at h
    obtain ⟨w1, w2, w3⟩ := wB_sp st (wD st tc g) x 8
    obtain ⟨v1, v2, v3⟩ := w3 h
    have := (wS_sp (wD_is st tc g) hk (show 8 * x + (wB st (wD st tc g) x 8).2 < 64 from by omega) v2 (by omega)).1
    omega
theorem wR_8 {st tc : Nat → Nat} {x g i : Nat} (hx : x < 8) : wR st tc g x i < 8 := by
  cases i with
  | zero => exact hx
  | succ i =>
    show pA st tc (wD st tc g) (8 * x + (wB st (wD st tc g) x 8).2) i % 8 < 8
    omega
theorem wlen_c {st tc : Nat → Nat} {x g : Nat} (hk : stok st tc) (hx : x < 8) (h : wC st tc g x < 100000000) : nI (cv (wC st tc g x)) / nI 1000 - nI (cv (wC st tc g x)) / nI 1000 / nI 1000 * nI 1000 = nI (wC st tc g x % 1000000 / 100) := by
  obtain ⟨b, l, s, h1, h2, h3, h4, h5⟩ := wC_d hk hx h
  simp (disch := omega) only [pk_mul, nI_add, ksub, kdv, kd8, kd64, kd2, kd3, km8, km64, kt8, ke8, ke64, kcl, kin, kle, klt, keq, up_s, up_n, up_u, true_and, and_true, false_implies, true_implies, not_false_eq_true, not_true_eq_false]
  rw [show cv (wC st tc g x) / 1000 - cv (wC st tc g x) / 1000 / 1000 * 1000 = wC st tc g x % 1000000 / 100 from by omega]
theorem wlen_m {st tc : Nat → Nat} {x g : Nat} (h : wC st tc g x < 100000000) : (nI (wC st tc g x) - nI (wC st tc g x) / nI 1000000 * nI 1000000) / nI 100 = nI (wC st tc g x % 1000000 / 100) := by
  simp (disch := omega) only [pk_mul, nI_add, ksub, kdv, kd8, kd64, kd2, kd3, km8, km64, kt8, ke8, ke64, kcl, kin, kle, klt, keq, up_s, up_n, up_u, true_and, and_true, false_implies, true_implies, not_false_eq_true, not_true_eq_false]
  rw [show wC st tc g x - wC st tc g x / 1000000 * 1000000 = wC st tc g x % 1000000 from by omega]
theorem wbuy_c {st tc : Nat → Nat} {x g : Nat} (hk : stok st tc) (hx : x < 8) (h : wC st tc g x < 100000000) : nI (cv (wC st tc g x)) / nI 1000000 = nI (wC st tc g x / 1000000) := by
  obtain ⟨b, l, s, h1, h2, h3, h4, h5⟩ := wC_d hk hx h
  simp (disch := omega) only [pk_mul, nI_add, ksub, kdv, kd8, kd64, kd2, kd3, km8, km64, kt8, ke8, ke64, kcl, kin, kle, klt, keq, up_s, up_n, up_u, true_and, and_true, false_implies, true_implies, not_false_eq_true, not_true_eq_false]
  rw [show cv (wC st tc g x) / 1000000 = wC st tc g x / 1000000 from by omega]
theorem wbuy_m {st tc : Nat → Nat} {x g : Nat} (h : wC st tc g x < 100000000) : nI (wC st tc g x) / nI 1000000 = nI (wC st tc g x / 1000000) := by
  simp (disch := omega) only [pk_mul, nI_add, ksub, kdv, kd8, kd64, kd2, kd3, km8, km64, kt8, ke8, ke64, kcl, kin, kle, klt, keq, up_s, up_n, up_u, true_and, and_true, false_implies, true_implies, not_false_eq_true, not_true_eq_false]
theorem fr_q1 {I J K : Nat → Nat → Int32} {S F S' F' : List Nat} (h1 : fr S F I J) (h2 : fr S' F' (va_up J 73 (va_up (J 73) 0 (nI 0))) K) (a1 : S.all (fun a => SC.contains a) = true) (a2 : F.all (fun a => FC.contains a) = true) (a3 : S'.all (fun a => SC.contains a) = true) (a4 : F'.all (fun a => FC.contains a) = true) : fr SC FC I K := fr_trans (fr_mono h1 a1 a2) (fr_trans (fr_73 (fr_refl _ _ _) rfl) (fr_mono h2 a3 a4))
theorem fr_q0 {I K : Nat → Nat → Int32} {S F : List Nat} (h1 : fr S F I K) (a1 : S.all (fun a => SC.contains a) = true) (a2 : F.all (fun a => FC.contains a) = true) : fr SC FC I (va_up K 73 (va_up (K 73) 0 (nI 0))) := fr_73 (fr_mono h1 a1 a2) rfl
theorem MT_0 {t : tw} {I : Nat → Nat → Int32} (hM : MT t I) : MT t (va_up I 73 (va_up (I 73) 0 (nI 0))) := hM
theorem kcz3 {c : Nat} (h1 : 1 ≤ c) (hc : c < 2147483648) {x : Int32} : (nI (c - 1)).toInt64 < x.toInt64 ↔ nI c ≤ x := by
  rw [← ksub h1]
  exact kcz1 hc
theorem wC_le (st tc : Nat → Nat) (g x : Nat) : wC st tc g x ≤ 100000000 := by
  unfold wC
  split
  · omega
  · exact (wB_sp st (wD st tc g) x 8).1
theorem i32_nlt {x y : Int32} (h : y ≤ x) : ¬ x < y := by
  rw [Int32.lt_iff_toInt_lt]
  rw [Int32.le_iff_toInt_le] at h
  omega
theorem q_way {e : am_V} {I : Nat → Nat → Int32} {L : Nat → Nat → Int64} {t : tw} {Q : Int32 → Int32 → (Nat → Nat → Int32) → Prop} {v1 : Int32} {v2 : Int32} (hC : CT t I) (hM : MT t I) (hk : tok t) (hQ : ∀ r J, fr SC FC I J → Q r r J) : C_X10_way_0 e v1 v2 I L (fun r J => C_X11_way_73 e v1 v2 J L (fun r' K => Q r r' K)) := by
  have hC2 := hC
  have hM2 := hM
  have hk2 := hk
  obtain ⟨c0, c1, c2, c3, c4, c5, c6, c7, c8, cS, cD, cN, cA, cT, cM, cR, cF, cO, cH, cL⟩ := hC
  obtain ⟨m0, m1, m2, m3, m4, m5, mS, mU, mL, mF, mO, mH, mA, mK⟩ := hM
  obtain ⟨o0, oT, oZ, oY, oD, o9, oN, o28, oB, oX, oE, oF, oA, oH, oU, oV⟩ := hk
  have f0 : fr SC FC I (va_up I 73 (va_up (I 73) 0 (nI 0))) := fr_73 (fr_refl _ _ _) rfl
  rcases crs v1 (t 0 0) (by omega) with ax | ⟨ax, dx⟩ | ⟨x, hx, rfl⟩
  · (refine b_X10_way_0 ?_; simp (disch := omega) only [pk_mul, nI_add, ksub, kdv, kd8, kd64, kd2, kd3, km8, km64, kt8, ke8, ke64, kcl, kin, kle, klt, keq, up_s, up_n, up_u, true_and, and_true, false_implies, true_implies, not_false_eq_true, not_true_eq_false, ax, c0, knl]; refine b_X11_way_73 ?_; simp (disch := omega) only [pk_mul, nI_add, ksub, kdv, kd8, kd64, kd2, kd3, km8, km64, kt8, ke8, ke64, kcl, kin, kle, klt, keq, up_s, up_n, up_u, true_and, and_true, false_implies, true_implies, not_false_eq_true, not_true_eq_false, ax, m1, kzl, kcz, knl]; exact hQ _ _ f0)
  · (refine b_X10_way_0 ?_; simp (disch := omega) only [pk_mul, nI_add, ksub, kdv, kd8, kd64, kd2, kd3, km8, km64, kt8, ke8, ke64, kcl, kin, kle, klt, keq, up_s, up_n, up_u, true_and, and_true, false_implies, true_implies, not_false_eq_true, not_true_eq_false, ax, dx, c0, knl]; refine b_X11_way_73 ?_; simp (disch := omega) only [pk_mul, nI_add, ksub, kdv, kd8, kd64, kd2, kd3, km8, km64, kt8, ke8, ke64, kcl, kin, kle, klt, keq, up_s, up_n, up_u, true_and, and_true, false_implies, true_implies, not_false_eq_true, not_true_eq_false, ax, dx, m1, kzl, kcz, knl]; exact hQ _ _ f0)
  · have gx : (t 0 0 ≤ x) = False := eq_false (by omega)
    rcases crs v2 (t 0 0) (by omega) with ay | ⟨ay, dy⟩ | ⟨y, hy, rfl⟩
    · (refine b_X10_way_0 ?_; simp (disch := omega) only [pk_mul, nI_add, ksub, kdv, kd8, kd64, kd2, kd3, km8, km64, kt8, ke8, ke64, kcl, kin, kle, klt, keq, up_s, up_n, up_u, true_and, and_true, false_implies, true_implies, not_false_eq_true, not_true_eq_false, gx, ay, c0, knl]; refine b_X11_way_73 ?_; simp (disch := omega) only [pk_mul, nI_add, ksub, kdv, kd8, kd64, kd2, kd3, km8, km64, kt8, ke8, ke64, kcl, kin, kle, klt, keq, up_s, up_n, up_u, true_and, and_true, false_implies, true_implies, not_false_eq_true, not_true_eq_false, gx, ay, m1, kzl, kcz, knl]; exact hQ _ _ f0)
    · (refine b_X10_way_0 ?_; simp (disch := omega) only [pk_mul, nI_add, ksub, kdv, kd8, kd64, kd2, kd3, km8, km64, kt8, ke8, ke64, kcl, kin, kle, klt, keq, up_s, up_n, up_u, true_and, and_true, false_implies, true_implies, not_false_eq_true, not_true_eq_false, gx, ay, dy, c0, knl]; refine b_X11_way_73 ?_; simp (disch := omega) only [pk_mul, nI_add, ksub, kdv, kd8, kd64, kd2, kd3, km8, km64, kt8, ke8, ke64, kcl, kin, kle, klt, keq, up_s, up_n, up_u, true_and, and_true, false_implies, true_implies, not_false_eq_true, not_true_eq_false, gx, ay, dy, m1, kzl, kcz, knl]; exact hQ _ _ f0)
    · have gy : (t 0 0 ≤ y) = False := eq_false (by omega)
      refine b_X10_way_0 ?_
      simp (disch := omega) only [pk_mul, nI_add, ksub, kdv, kd8, kd64, kd2, kd3, km8, km64, kt8, ke8, ke64, kcl, kin, kle, klt, keq, up_s, up_n, up_u, true_and, and_true, false_implies, true_implies, not_false_eq_true, not_true_eq_false, c0, knl, gx, gy]
      refine c_find_10 (nw := t 3) (m := 0) hC2 hk2 cR (tok_nw hk2) (by decide) (by omega) (by omega) (fun J hf fJ j1 j2 j3 => ?_) (fun J hf fJ => ?_)
      · rw [tcm_0] at hf j1 j2 j3
        have MJ := fr_MT fJ hM2 rfl
        have m1J := MJ.2.1
        refine ⟨fun h => absurd h (by decide), fun _ => ?_⟩
        have hS := tok_sf hk2 (t 3) 0
        obtain ⟨l1, l2⟩ := wL_b hS (show x < 8 from by omega) hf
        rw [j2, wlen_c hS (by omega) hf]
        refine b_X11_way_73 ?_
        simp (disch := omega) only [pk_mul, nI_add, ksub, kdv, kd8, kd64, kd2, kd3, km8, km64, kt8, ke8, ke64, kcl, kin, kle, klt, keq, up_s, up_n, up_u, true_and, and_true, false_implies, true_implies, not_false_eq_true, not_true_eq_false, m1J, kzl, kcz, knl, gx, gy]
        refine c_wayNow (b := 0) (MT_0 MJ) hk2 hx hy (by decide) (fun K fK hK => ?_)
        have g2 := wC_le (t 1) (tcf (t 3) 0) y x
        have g1 : (wC (t 1) (tcf (t 3) 0) y x < 100000000) = True := eq_true hf
        obtain ⟨k1, k2⟩ := hK hf
        rw [wlen_m hf]
        simp (disch := omega) only [pk_mul, nI_add, ksub, kdv, kd8, kd64, kd2, kd3, km8, km64, kt8, ke8, ke64, kcl, kin, kle, klt, keq, up_s, up_n, up_u, true_and, and_true, false_implies, true_implies, not_false_eq_true, not_true_eq_false, g1]
        exact hQ _ _ (fr_q1 fJ fK rfl rfl rfl rfl)
      · rw [tcm_0] at hf
        have MJ := fr_MT fJ hM2 rfl
        have m1J := MJ.2.1
        refine ⟨fun _ => ?_, fun h => absurd rfl h⟩
        refine b_X11_way_73 ?_
        simp (disch := omega) only [pk_mul, nI_add, ksub, kdv, kd8, kd64, kd2, kd3, km8, km64, kt8, ke8, ke64, kcl, kin, kle, klt, keq, up_s, up_n, up_u, true_and, and_true, false_implies, true_implies, not_false_eq_true, not_true_eq_false, m1J, kzl, kcz, knl, gx, gy]
        refine c_wayNow (b := 0) (MT_0 MJ) hk2 hx hy (by decide) (fun K fK hK => ?_)
        have g2 := wC_le (t 1) (tcf (t 3) 0) y x
        have g1 : (wC (t 1) (tcf (t 3) 0) y x < 100000000) = False := eq_false hf
        simp (disch := omega) only [pk_mul, nI_add, ksub, kdv, kd8, kd64, kd2, kd3, km8, km64, kt8, ke8, ke64, kcl, kin, kle, klt, keq, up_s, up_n, up_u, true_and, and_true, false_implies, true_implies, not_false_eq_true, not_true_eq_false, g1]
        exact hQ _ _ (fr_q1 fJ fK rfl rfl rfl rfl)
theorem q_streets {e : am_V} {I : Nat → Nat → Int32} {L : Nat → Nat → Int64} {t : tw} {Q : Int32 → Int32 → (Nat → Nat → Int32) → Prop} {v1 : Int32} {v2 : Int32} (hC : CT t I) (hM : MT t I) (hk : tok t) (hQ : ∀ r J, fr SC FC I J → Q r r J) : C_X10_streets_0 e v1 v2 I L (fun r J => C_X11_streets_73 e v1 v2 J L (fun r' K => Q r r' K)) := by
  have hC2 := hC
  have hM2 := hM
  have hk2 := hk
  obtain ⟨c0, c1, c2, c3, c4, c5, c6, c7, c8, cS, cD, cN, cA, cT, cM, cR, cF, cO, cH, cL⟩ := hC
  obtain ⟨m0, m1, m2, m3, m4, m5, mS, mU, mL, mF, mO, mH, mA, mK⟩ := hM
  obtain ⟨o0, oT, oZ, oY, oD, o9, oN, o28, oB, oX, oE, oF, oA, oH, oU, oV⟩ := hk
  have f0 : fr SC FC I (va_up I 73 (va_up (I 73) 0 (nI 0))) := fr_73 (fr_refl _ _ _) rfl
  rcases crs v1 (t 0 0) (by omega) with ax | ⟨ax, dx⟩ | ⟨x, hx, rfl⟩
  · (refine b_X10_streets_0 ?_; simp (disch := omega) only [pk_mul, nI_add, ksub, kdv, kd8, kd64, kd2, kd3, km8, km64, kt8, ke8, ke64, kcl, kin, kle, klt, keq, up_s, up_n, up_u, true_and, and_true, false_implies, true_implies, not_false_eq_true, not_true_eq_false, ax, c0, knl]; refine b_X11_streets_73 ?_; simp (disch := omega) only [pk_mul, nI_add, ksub, kdv, kd8, kd64, kd2, kd3, km8, km64, kt8, ke8, ke64, kcl, kin, kle, klt, keq, up_s, up_n, up_u, true_and, and_true, false_implies, true_implies, not_false_eq_true, not_true_eq_false, ax, m1, kzl, kcz, knl]; exact hQ _ _ f0)
  · (refine b_X10_streets_0 ?_; simp (disch := omega) only [pk_mul, nI_add, ksub, kdv, kd8, kd64, kd2, kd3, km8, km64, kt8, ke8, ke64, kcl, kin, kle, klt, keq, up_s, up_n, up_u, true_and, and_true, false_implies, true_implies, not_false_eq_true, not_true_eq_false, ax, dx, c0, knl]; refine b_X11_streets_73 ?_; simp (disch := omega) only [pk_mul, nI_add, ksub, kdv, kd8, kd64, kd2, kd3, km8, km64, kt8, ke8, ke64, kcl, kin, kle, klt, keq, up_s, up_n, up_u, true_and, and_true, false_implies, true_implies, not_false_eq_true, not_true_eq_false, ax, dx, m1, kzl, kcz, knl]; exact hQ _ _ f0)
  · have gx : (t 0 0 ≤ x) = False := eq_false (by omega)
    rcases crs v2 (t 0 0) (by omega) with ay | ⟨ay, dy⟩ | ⟨y, hy, rfl⟩
    · (refine b_X10_streets_0 ?_; simp (disch := omega) only [pk_mul, nI_add, ksub, kdv, kd8, kd64, kd2, kd3, km8, km64, kt8, ke8, ke64, kcl, kin, kle, klt, keq, up_s, up_n, up_u, true_and, and_true, false_implies, true_implies, not_false_eq_true, not_true_eq_false, gx, ay, c0, knl]; refine b_X11_streets_73 ?_; simp (disch := omega) only [pk_mul, nI_add, ksub, kdv, kd8, kd64, kd2, kd3, km8, km64, kt8, ke8, ke64, kcl, kin, kle, klt, keq, up_s, up_n, up_u, true_and, and_true, false_implies, true_implies, not_false_eq_true, not_true_eq_false, gx, ay, m1, kzl, kcz, knl]; exact hQ _ _ f0)
    · (refine b_X10_streets_0 ?_; simp (disch := omega) only [pk_mul, nI_add, ksub, kdv, kd8, kd64, kd2, kd3, km8, km64, kt8, ke8, ke64, kcl, kin, kle, klt, keq, up_s, up_n, up_u, true_and, and_true, false_implies, true_implies, not_false_eq_true, not_true_eq_false, gx, ay, dy, c0, knl]; refine b_X11_streets_73 ?_; simp (disch := omega) only [pk_mul, nI_add, ksub, kdv, kd8, kd64, kd2, kd3, km8, km64, kt8, ke8, ke64, kcl, kin, kle, klt, keq, up_s, up_n, up_u, true_and, and_true, false_implies, true_implies, not_false_eq_true, not_true_eq_false, gx, ay, dy, m1, kzl, kcz, knl]; exact hQ _ _ f0)
    · have gy : (t 0 0 ≤ y) = False := eq_false (by omega)
      refine b_X10_streets_0 ?_
      simp (disch := omega) only [pk_mul, nI_add, ksub, kdv, kd8, kd64, kd2, kd3, km8, km64, kt8, ke8, ke64, kcl, kin, kle, klt, keq, up_s, up_n, up_u, true_and, and_true, false_implies, true_implies, not_false_eq_true, not_true_eq_false, c0, knl, gx, gy]
      refine c_find_10 (nw := t 3) (m := 0) hC2 hk2 cR (tok_nw hk2) (by decide) (by omega) (by omega) (fun J hf fJ j1 j2 j3 => ?_) (fun J hf fJ => ?_)
      · rw [tcm_0] at hf j1 j2 j3
        have MJ := fr_MT fJ hM2 rfl
        have m1J := MJ.2.1
        refine ⟨fun h => absurd h (by decide), fun _ => ?_⟩
        have hS := tok_sf hk2 (t 3) 0
        obtain ⟨l1, l2⟩ := wL_b hS (show x < 8 from by omega) hf
        rw [j1]
        refine b_X11_streets_73 ?_
        simp (disch := omega) only [pk_mul, nI_add, ksub, kdv, kd8, kd64, kd2, kd3, km8, km64, kt8, ke8, ke64, kcl, kin, kle, klt, keq, up_s, up_n, up_u, true_and, and_true, false_implies, true_implies, not_false_eq_true, not_true_eq_false, m1J, kzl, kcz, knl, gx, gy]
        refine c_wayNow (b := 0) (MT_0 MJ) hk2 hx hy (by decide) (fun K fK hK => ?_)
        have g2 := wC_le (t 1) (tcf (t 3) 0) y x
        have g1 : (wC (t 1) (tcf (t 3) 0) y x < 100000000) = True := eq_true hf
        obtain ⟨k1, k2⟩ := hK hf
        rw [k1]
        simp (disch := omega) only [pk_mul, nI_add, ksub, kdv, kd8, kd64, kd2, kd3, km8, km64, kt8, ke8, ke64, kcl, kin, kle, klt, keq, up_s, up_n, up_u, true_and, and_true, false_implies, true_implies, not_false_eq_true, not_true_eq_false, g1]
        exact hQ _ _ (fr_q1 fJ fK rfl rfl rfl rfl)
      · rw [tcm_0] at hf
        have MJ := fr_MT fJ hM2 rfl
        have m1J := MJ.2.1
        refine ⟨fun _ => ?_, fun h => absurd rfl h⟩
        refine b_X11_streets_73 ?_
        simp (disch := omega) only [pk_mul, nI_add, ksub, kdv, kd8, kd64, kd2, kd3, km8, km64, kt8, ke8, ke64, kcl, kin, kle, klt, keq, up_s, up_n, up_u, true_and, and_true, false_implies, true_implies, not_false_eq_true, not_true_eq_false, m1J, kzl, kcz, knl, gx, gy]
        refine c_wayNow (b := 0) (MT_0 MJ) hk2 hx hy (by decide) (fun K fK hK => ?_)
        have g2 := wC_le (t 1) (tcf (t 3) 0) y x
        have g1 : (wC (t 1) (tcf (t 3) 0) y x < 100000000) = False := eq_false hf
        simp (disch := omega) only [pk_mul, nI_add, ksub, kdv, kd8, kd64, kd2, kd3, km8, km64, kt8, ke8, ke64, kcl, kin, kle, klt, keq, up_s, up_n, up_u, true_and, and_true, false_implies, true_implies, not_false_eq_true, not_true_eq_false, g1]
        exact hQ _ _ (fr_q1 fJ fK rfl rfl rfl rfl)
theorem q_buy {e : am_V} {I : Nat → Nat → Int32} {L : Nat → Nat → Int64} {t : tw} {Q : Int32 → Int32 → (Nat → Nat → Int32) → Prop} {v1 : Int32} {v2 : Int32} (hC : CT t I) (hM : MT t I) (hk : tok t) (hQ : ∀ r J, fr SC FC I J → Q r r J) : C_X10_buy_0 e v1 v2 I L (fun r J => C_X11_buy_73 e v1 v2 J L (fun r' K => Q r r' K)) := by
  have hC2 := hC
  have hM2 := hM
  have hk2 := hk
  obtain ⟨c0, c1, c2, c3, c4, c5, c6, c7, c8, cS, cD, cN, cA, cT, cM, cR, cF, cO, cH, cL⟩ := hC
  obtain ⟨m0, m1, m2, m3, m4, m5, mS, mU, mL, mF, mO, mH, mA, mK⟩ := hM
  obtain ⟨o0, oT, oZ, oY, oD, o9, oN, o28, oB, oX, oE, oF, oA, oH, oU, oV⟩ := hk
  have f0 : fr SC FC I (va_up I 73 (va_up (I 73) 0 (nI 0))) := fr_73 (fr_refl _ _ _) rfl
  rcases crs v1 (t 0 0) (by omega) with ax | ⟨ax, dx⟩ | ⟨x, hx, rfl⟩
  · (refine b_X10_buy_0 ?_; simp (disch := omega) only [pk_mul, nI_add, ksub, kdv, kd8, kd64, kd2, kd3, km8, km64, kt8, ke8, ke64, kcl, kin, kle, klt, keq, up_s, up_n, up_u, true_and, and_true, false_implies, true_implies, not_false_eq_true, not_true_eq_false, ax, c0, knl]; refine b_X11_buy_73 ?_; simp (disch := omega) only [pk_mul, nI_add, ksub, kdv, kd8, kd64, kd2, kd3, km8, km64, kt8, ke8, ke64, kcl, kin, kle, klt, keq, up_s, up_n, up_u, true_and, and_true, false_implies, true_implies, not_false_eq_true, not_true_eq_false, ax, m1, kzl, kcz, knl]; exact hQ _ _ f0)
  · (refine b_X10_buy_0 ?_; simp (disch := omega) only [pk_mul, nI_add, ksub, kdv, kd8, kd64, kd2, kd3, km8, km64, kt8, ke8, ke64, kcl, kin, kle, klt, keq, up_s, up_n, up_u, true_and, and_true, false_implies, true_implies, not_false_eq_true, not_true_eq_false, ax, dx, c0, knl]; refine b_X11_buy_73 ?_; simp (disch := omega) only [pk_mul, nI_add, ksub, kdv, kd8, kd64, kd2, kd3, km8, km64, kt8, ke8, ke64, kcl, kin, kle, klt, keq, up_s, up_n, up_u, true_and, and_true, false_implies, true_implies, not_false_eq_true, not_true_eq_false, ax, dx, m1, kzl, kcz, knl]; exact hQ _ _ f0)
  · have gx : (t 0 0 ≤ x) = False := eq_false (by omega)
    rcases crs v2 (t 0 0) (by omega) with ay | ⟨ay, dy⟩ | ⟨y, hy, rfl⟩
    · (refine b_X10_buy_0 ?_; simp (disch := omega) only [pk_mul, nI_add, ksub, kdv, kd8, kd64, kd2, kd3, km8, km64, kt8, ke8, ke64, kcl, kin, kle, klt, keq, up_s, up_n, up_u, true_and, and_true, false_implies, true_implies, not_false_eq_true, not_true_eq_false, gx, ay, c0, knl]; refine b_X11_buy_73 ?_; simp (disch := omega) only [pk_mul, nI_add, ksub, kdv, kd8, kd64, kd2, kd3, km8, km64, kt8, ke8, ke64, kcl, kin, kle, klt, keq, up_s, up_n, up_u, true_and, and_true, false_implies, true_implies, not_false_eq_true, not_true_eq_false, gx, ay, m1, kzl, kcz, knl]; exact hQ _ _ f0)
    · (refine b_X10_buy_0 ?_; simp (disch := omega) only [pk_mul, nI_add, ksub, kdv, kd8, kd64, kd2, kd3, km8, km64, kt8, ke8, ke64, kcl, kin, kle, klt, keq, up_s, up_n, up_u, true_and, and_true, false_implies, true_implies, not_false_eq_true, not_true_eq_false, gx, ay, dy, c0, knl]; refine b_X11_buy_73 ?_; simp (disch := omega) only [pk_mul, nI_add, ksub, kdv, kd8, kd64, kd2, kd3, km8, km64, kt8, ke8, ke64, kcl, kin, kle, klt, keq, up_s, up_n, up_u, true_and, and_true, false_implies, true_implies, not_false_eq_true, not_true_eq_false, gx, ay, dy, m1, kzl, kcz, knl]; exact hQ _ _ f0)
    · have gy : (t 0 0 ≤ y) = False := eq_false (by omega)
      refine b_X10_buy_0 ?_
      simp (disch := omega) only [pk_mul, nI_add, ksub, kdv, kd8, kd64, kd2, kd3, km8, km64, kt8, ke8, ke64, kcl, kin, kle, klt, keq, up_s, up_n, up_u, true_and, and_true, false_implies, true_implies, not_false_eq_true, not_true_eq_false, c0, knl, gx, gy]
      refine c_find_10 (nw := t 3) (m := 1) hC2 hk2 cR (tok_nw hk2) (by decide) (by omega) (by omega) (fun J hf fJ j1 j2 j3 => ?_) (fun J hf fJ => ?_)
      · rw [tcm_1] at hf j1 j2 j3
        have MJ := fr_MT fJ hM2 rfl
        have m1J := MJ.2.1
        refine ⟨fun h => absurd h (by decide), fun _ => ?_⟩
        have hS := tok_sf hk2 (t 3) 1
        obtain ⟨l1, l2⟩ := wL_b hS (show x < 8 from by omega) hf
        rw [j2, wbuy_c hS (by omega) hf]
        refine b_X11_buy_73 ?_
        simp (disch := omega) only [pk_mul, nI_add, ksub, kdv, kd8, kd64, kd2, kd3, km8, km64, kt8, ke8, ke64, kcl, kin, kle, klt, keq, up_s, up_n, up_u, true_and, and_true, false_implies, true_implies, not_false_eq_true, not_true_eq_false, m1J, kzl, kcz, knl, gx, gy]
        refine c_wayNow (b := 1) (MT_0 MJ) hk2 hx hy (by decide) (fun K fK hK => ?_)
        have g2 := wC_le (t 1) (tcf (t 3) 1) y x
        have g1 : (wC (t 1) (tcf (t 3) 1) y x < 100000000) = True := eq_true hf
        obtain ⟨k1, k2⟩ := hK hf
        rw [wbuy_m hf]
        simp (disch := omega) only [pk_mul, nI_add, ksub, kdv, kd8, kd64, kd2, kd3, km8, km64, kt8, ke8, ke64, kcl, kin, kle, klt, keq, up_s, up_n, up_u, true_and, and_true, false_implies, true_implies, not_false_eq_true, not_true_eq_false, g1]
        exact hQ _ _ (fr_q1 fJ fK rfl rfl rfl rfl)
      · rw [tcm_1] at hf
        have MJ := fr_MT fJ hM2 rfl
        have m1J := MJ.2.1
        refine ⟨fun _ => ?_, fun h => absurd rfl h⟩
        refine b_X11_buy_73 ?_
        simp (disch := omega) only [pk_mul, nI_add, ksub, kdv, kd8, kd64, kd2, kd3, km8, km64, kt8, ke8, ke64, kcl, kin, kle, klt, keq, up_s, up_n, up_u, true_and, and_true, false_implies, true_implies, not_false_eq_true, not_true_eq_false, m1J, kzl, kcz, knl, gx, gy]
        refine c_wayNow (b := 1) (MT_0 MJ) hk2 hx hy (by decide) (fun K fK hK => ?_)
        have g2 := wC_le (t 1) (tcf (t 3) 1) y x
        have g1 : (wC (t 1) (tcf (t 3) 1) y x < 100000000) = False := eq_false hf
        simp (disch := omega) only [pk_mul, nI_add, ksub, kdv, kd8, kd64, kd2, kd3, km8, km64, kt8, ke8, ke64, kcl, kin, kle, klt, keq, up_s, up_n, up_u, true_and, and_true, false_implies, true_implies, not_false_eq_true, not_true_eq_false, g1]
        exact hQ _ _ (fr_q1 fJ fK rfl rfl rfl rfl)
theorem q_bought {e : am_V} {I : Nat → Nat → Int32} {L : Nat → Nat → Int64} {t : tw} {Q : Int32 → Int32 → (Nat → Nat → Int32) → Prop} {v1 : Int32} {v2 : Int32} (hC : CT t I) (hM : MT t I) (hk : tok t) (hQ : ∀ r J, fr SC FC I J → Q r r J) : C_X10_bought_0 e v1 v2 I L (fun r J => C_X11_bought_73 e v1 v2 J L (fun r' K => Q r r' K)) := by
  have hC2 := hC
  have hM2 := hM
  have hk2 := hk
  obtain ⟨c0, c1, c2, c3, c4, c5, c6, c7, c8, cS, cD, cN, cA, cT, cM, cR, cF, cO, cH, cL⟩ := hC
  obtain ⟨m0, m1, m2, m3, m4, m5, mS, mU, mL, mF, mO, mH, mA, mK⟩ := hM
  obtain ⟨o0, oT, oZ, oY, oD, o9, oN, o28, oB, oX, oE, oF, oA, oH, oU, oV⟩ := hk
  have f0 : fr SC FC I (va_up I 73 (va_up (I 73) 0 (nI 0))) := fr_73 (fr_refl _ _ _) rfl
  rcases crs v1 (t 0 0) (by omega) with ax | ⟨ax, dx⟩ | ⟨x, hx, rfl⟩
  · (refine b_X10_bought_0 ?_; simp (disch := omega) only [pk_mul, nI_add, ksub, kdv, kd8, kd64, kd2, kd3, km8, km64, kt8, ke8, ke64, kcl, kin, kle, klt, keq, up_s, up_n, up_u, true_and, and_true, false_implies, true_implies, not_false_eq_true, not_true_eq_false, ax, c0, knl]; refine b_X11_bought_73 ?_; simp (disch := omega) only [pk_mul, nI_add, ksub, kdv, kd8, kd64, kd2, kd3, km8, km64, kt8, ke8, ke64, kcl, kin, kle, klt, keq, up_s, up_n, up_u, true_and, and_true, false_implies, true_implies, not_false_eq_true, not_true_eq_false, ax, m1, kzl, kcz, knl]; exact hQ _ _ f0)
  · (refine b_X10_bought_0 ?_; simp (disch := omega) only [pk_mul, nI_add, ksub, kdv, kd8, kd64, kd2, kd3, km8, km64, kt8, ke8, ke64, kcl, kin, kle, klt, keq, up_s, up_n, up_u, true_and, and_true, false_implies, true_implies, not_false_eq_true, not_true_eq_false, ax, dx, c0, knl]; refine b_X11_bought_73 ?_; simp (disch := omega) only [pk_mul, nI_add, ksub, kdv, kd8, kd64, kd2, kd3, km8, km64, kt8, ke8, ke64, kcl, kin, kle, klt, keq, up_s, up_n, up_u, true_and, and_true, false_implies, true_implies, not_false_eq_true, not_true_eq_false, ax, dx, m1, kzl, kcz, knl]; exact hQ _ _ f0)
  · have gx : (t 0 0 ≤ x) = False := eq_false (by omega)
    rcases crs v2 (t 0 0) (by omega) with ay | ⟨ay, dy⟩ | ⟨y, hy, rfl⟩
    · (refine b_X10_bought_0 ?_; simp (disch := omega) only [pk_mul, nI_add, ksub, kdv, kd8, kd64, kd2, kd3, km8, km64, kt8, ke8, ke64, kcl, kin, kle, klt, keq, up_s, up_n, up_u, true_and, and_true, false_implies, true_implies, not_false_eq_true, not_true_eq_false, gx, ay, c0, knl]; refine b_X11_bought_73 ?_; simp (disch := omega) only [pk_mul, nI_add, ksub, kdv, kd8, kd64, kd2, kd3, km8, km64, kt8, ke8, ke64, kcl, kin, kle, klt, keq, up_s, up_n, up_u, true_and, and_true, false_implies, true_implies, not_false_eq_true, not_true_eq_false, gx, ay, m1, kzl, kcz, knl]; exact hQ _ _ f0)
    · (refine b_X10_bought_0 ?_; simp (disch := omega) only [pk_mul, nI_add, ksub, kdv, kd8, kd64, kd2, kd3, km8, km64, kt8, ke8, ke64, kcl, kin, kle, klt, keq, up_s, up_n, up_u, true_and, and_true, false_implies, true_implies, not_false_eq_true, not_true_eq_false, gx, ay, dy, c0, knl]; refine b_X11_bought_73 ?_; simp (disch := omega) only [pk_mul, nI_add, ksub, kdv, kd8, kd64, kd2, kd3, km8, km64, kt8, ke8, ke64, kcl, kin, kle, klt, keq, up_s, up_n, up_u, true_and, and_true, false_implies, true_implies, not_false_eq_true, not_true_eq_false, gx, ay, dy, m1, kzl, kcz, knl]; exact hQ _ _ f0)
    · have gy : (t 0 0 ≤ y) = False := eq_false (by omega)
      refine b_X10_bought_0 ?_
      simp (disch := omega) only [pk_mul, nI_add, ksub, kdv, kd8, kd64, kd2, kd3, km8, km64, kt8, ke8, ke64, kcl, kin, kle, klt, keq, up_s, up_n, up_u, true_and, and_true, false_implies, true_implies, not_false_eq_true, not_true_eq_false, c0, knl, gx, gy]
      refine c_find_10 (nw := t 3) (m := 1) hC2 hk2 cR (tok_nw hk2) (by decide) (by omega) (by omega) (fun J hf fJ j1 j2 j3 => ?_) (fun J hf fJ => ?_)
      · rw [tcm_1] at hf j1 j2 j3
        have MJ := fr_MT fJ hM2 rfl
        have m1J := MJ.2.1
        refine ⟨fun h => absurd h (by decide), fun _ => ?_⟩
        have hS := tok_sf hk2 (t 3) 1
        obtain ⟨l1, l2⟩ := wL_b hS (show x < 8 from by omega) hf
        rw [j2, wlen_c hS (by omega) hf]
        refine b_X11_bought_73 ?_
        simp (disch := omega) only [pk_mul, nI_add, ksub, kdv, kd8, kd64, kd2, kd3, km8, km64, kt8, ke8, ke64, kcl, kin, kle, klt, keq, up_s, up_n, up_u, true_and, and_true, false_implies, true_implies, not_false_eq_true, not_true_eq_false, m1J, kzl, kcz, knl, gx, gy]
        refine c_wayNow (b := 1) (MT_0 MJ) hk2 hx hy (by decide) (fun K fK hK => ?_)
        have g2 := wC_le (t 1) (tcf (t 3) 1) y x
        have g1 : (wC (t 1) (tcf (t 3) 1) y x < 100000000) = True := eq_true hf
        obtain ⟨k1, k2⟩ := hK hf
        rw [wlen_m hf]
        simp (disch := omega) only [pk_mul, nI_add, ksub, kdv, kd8, kd64, kd2, kd3, km8, km64, kt8, ke8, ke64, kcl, kin, kle, klt, keq, up_s, up_n, up_u, true_and, and_true, false_implies, true_implies, not_false_eq_true, not_true_eq_false, g1]
        exact hQ _ _ (fr_q1 fJ fK rfl rfl rfl rfl)
      · rw [tcm_1] at hf
        have MJ := fr_MT fJ hM2 rfl
        have m1J := MJ.2.1
        refine ⟨fun _ => ?_, fun h => absurd rfl h⟩
        refine b_X11_bought_73 ?_
        simp (disch := omega) only [pk_mul, nI_add, ksub, kdv, kd8, kd64, kd2, kd3, km8, km64, kt8, ke8, ke64, kcl, kin, kle, klt, keq, up_s, up_n, up_u, true_and, and_true, false_implies, true_implies, not_false_eq_true, not_true_eq_false, m1J, kzl, kcz, knl, gx, gy]
        refine c_wayNow (b := 1) (MT_0 MJ) hk2 hx hy (by decide) (fun K fK hK => ?_)
        have g2 := wC_le (t 1) (tcf (t 3) 1) y x
        have g1 : (wC (t 1) (tcf (t 3) 1) y x < 100000000) = False := eq_false hf
        simp (disch := omega) only [pk_mul, nI_add, ksub, kdv, kd8, kd64, kd2, kd3, km8, km64, kt8, ke8, ke64, kcl, kin, kle, klt, keq, up_s, up_n, up_u, true_and, and_true, false_implies, true_implies, not_false_eq_true, not_true_eq_false, g1]
        exact hQ _ _ (fr_q1 fJ fK rfl rfl rfl rfl)
theorem q_stop {e : am_V} {I : Nat → Nat → Int32} {L : Nat → Nat → Int64} {t : tw} {Q : Int32 → Int32 → (Nat → Nat → Int32) → Prop} {v1 : Int32} {v2 : Int32} {v3 : Int32} (hC : CT t I) (hM : MT t I) (hk : tok t) (hQ : ∀ r J, fr SC FC I J → Q r r J) : C_X10_stop_0 e v1 v2 v3 I L (fun r J => C_X11_stop_73 e v1 v2 v3 J L (fun r' K => Q r r' K)) := by
  have hC2 := hC
  have hM2 := hM
  have hk2 := hk
  obtain ⟨c0, c1, c2, c3, c4, c5, c6, c7, c8, cS, cD, cN, cA, cT, cM, cR, cF, cO, cH, cL⟩ := hC
  obtain ⟨m0, m1, m2, m3, m4, m5, mS, mU, mL, mF, mO, mH, mA, mK⟩ := hM
  obtain ⟨o0, oT, oZ, oY, oD, o9, oN, o28, oB, oX, oE, oF, oA, oH, oU, oV⟩ := hk
  have f0 : fr SC FC I (va_up I 73 (va_up (I 73) 0 (nI 0))) := fr_73 (fr_refl _ _ _) rfl
  rcases crs v1 (t 0 0) (by omega) with ax | ⟨ax, dx⟩ | ⟨x, hx, rfl⟩
  · (refine b_X10_stop_0 ?_; simp (disch := omega) only [pk_mul, nI_add, ksub, kdv, kd8, kd64, kd2, kd3, km8, km64, kt8, ke8, ke64, kcl, kin, kle, klt, keq, up_s, up_n, up_u, true_and, and_true, false_implies, true_implies, not_false_eq_true, not_true_eq_false, ax, c0, knl]; refine b_X11_stop_73 ?_; simp (disch := omega) only [pk_mul, nI_add, ksub, kdv, kd8, kd64, kd2, kd3, km8, km64, kt8, ke8, ke64, kcl, kin, kle, klt, keq, up_s, up_n, up_u, true_and, and_true, false_implies, true_implies, not_false_eq_true, not_true_eq_false, ax, m1, kzl, kcz, knl]; exact hQ _ _ f0)
  · (refine b_X10_stop_0 ?_; simp (disch := omega) only [pk_mul, nI_add, ksub, kdv, kd8, kd64, kd2, kd3, km8, km64, kt8, ke8, ke64, kcl, kin, kle, klt, keq, up_s, up_n, up_u, true_and, and_true, false_implies, true_implies, not_false_eq_true, not_true_eq_false, ax, dx, c0, knl]; refine b_X11_stop_73 ?_; simp (disch := omega) only [pk_mul, nI_add, ksub, kdv, kd8, kd64, kd2, kd3, km8, km64, kt8, ke8, ke64, kcl, kin, kle, klt, keq, up_s, up_n, up_u, true_and, and_true, false_implies, true_implies, not_false_eq_true, not_true_eq_false, ax, dx, m1, kzl, kcz, knl]; exact hQ _ _ f0)
  · have gx : (t 0 0 ≤ x) = False := eq_false (by omega)
    rcases crs v2 (t 0 0) (by omega) with ay | ⟨ay, dy⟩ | ⟨y, hy, rfl⟩
    · (refine b_X10_stop_0 ?_; simp (disch := omega) only [pk_mul, nI_add, ksub, kdv, kd8, kd64, kd2, kd3, km8, km64, kt8, ke8, ke64, kcl, kin, kle, klt, keq, up_s, up_n, up_u, true_and, and_true, false_implies, true_implies, not_false_eq_true, not_true_eq_false, gx, ay, c0, knl]; refine b_X11_stop_73 ?_; simp (disch := omega) only [pk_mul, nI_add, ksub, kdv, kd8, kd64, kd2, kd3, km8, km64, kt8, ke8, ke64, kcl, kin, kle, klt, keq, up_s, up_n, up_u, true_and, and_true, false_implies, true_implies, not_false_eq_true, not_true_eq_false, gx, ay, m1, kzl, kcz, knl]; exact hQ _ _ f0)
    · (refine b_X10_stop_0 ?_; simp (disch := omega) only [pk_mul, nI_add, ksub, kdv, kd8, kd64, kd2, kd3, km8, km64, kt8, ke8, ke64, kcl, kin, kle, klt, keq, up_s, up_n, up_u, true_and, and_true, false_implies, true_implies, not_false_eq_true, not_true_eq_false, gx, ay, dy, c0, knl]; refine b_X11_stop_73 ?_; simp (disch := omega) only [pk_mul, nI_add, ksub, kdv, kd8, kd64, kd2, kd3, km8, km64, kt8, ke8, ke64, kcl, kin, kle, klt, keq, up_s, up_n, up_u, true_and, and_true, false_implies, true_implies, not_false_eq_true, not_true_eq_false, gx, ay, dy, m1, kzl, kcz, knl]; exact hQ _ _ f0)
    · have gy : (t 0 0 ≤ y) = False := eq_false (by omega)
      refine b_X10_stop_0 ?_
      simp (disch := omega) only [pk_mul, nI_add, ksub, kdv, kd8, kd64, kd2, kd3, km8, km64, kt8, ke8, ke64, kcl, kin, kle, klt, keq, up_s, up_n, up_u, true_and, and_true, false_implies, true_implies, not_false_eq_true, not_true_eq_false, c0, knl, gx, gy]
      refine c_find_10 (nw := t 3) (m := 0) hC2 hk2 cR (tok_nw hk2) (by decide) (by omega) (by omega) (fun J hf fJ j1 j2 j3 => ?_) (fun J hf fJ => ?_)
      · rw [tcm_0] at hf j1 j2 j3
        have MJ := fr_MT fJ hM2 rfl
        have m1J := MJ.2.1
        refine ⟨fun h => absurd h (by decide), fun _ => ?_⟩
        have hS := tok_sf hk2 (t 3) 0
        obtain ⟨l1, l2⟩ := wL_b hS (show x < 8 from by omega) hf
        rcases crs v3 (wL (t 1) (tcf (t 3) 0) y x) (by omega) with az | ⟨az, dz⟩ | ⟨z, hz, rfl⟩
        · skip
          simp (disch := omega) only [pk_mul, nI_add, ksub, kdv, kd8, kd64, kd2, kd3, km8, km64, kt8, ke8, ke64, kcl, kin, kle, klt, keq, up_s, up_n, up_u, true_and, and_true, false_implies, true_implies, not_false_eq_true, not_true_eq_false, j1, az, knl]
          refine b_X11_stop_73 ?_
          simp (disch := omega) only [pk_mul, nI_add, ksub, kdv, kd8, kd64, kd2, kd3, km8, km64, kt8, ke8, ke64, kcl, kin, kle, klt, keq, up_s, up_n, up_u, true_and, and_true, false_implies, true_implies, not_false_eq_true, not_true_eq_false, m1J, kzl, kcz, knl, gx, gy]
          refine c_wayNow (b := 0) (MT_0 MJ) hk2 hx hy (by decide) (fun K fK hK => ?_)
          obtain ⟨k1, k2⟩ := hK hf
          have g1 : (100000000 ≤ wC (t 1) (tcf (t 3) 0) y x) = False := eq_false (by omega)
          simp (disch := omega) only [pk_mul, nI_add, ksub, kdv, kd8, kd64, kd2, kd3, km8, km64, kt8, ke8, ke64, kcl, kin, kle, klt, keq, up_s, up_n, up_u, true_and, and_true, false_implies, true_implies, not_false_eq_true, not_true_eq_false, g1, k1, kzl, kcz1, kcz3, knl, az]
          exact hQ _ _ (fr_q1 fJ fK rfl rfl rfl rfl)
        · skip
          have dz2 : (v3 < nI (wL (t 1) (tcf (t 3) 0) y x)) = False := eq_false (i32_nlt dz)
          simp (disch := omega) only [pk_mul, nI_add, ksub, kdv, kd8, kd64, kd2, kd3, km8, km64, kt8, ke8, ke64, kcl, kin, kle, klt, keq, up_s, up_n, up_u, true_and, and_true, false_implies, true_implies, not_false_eq_true, not_true_eq_false, j1, az, dz, dz2, knl]
          refine b_X11_stop_73 ?_
          simp (disch := omega) only [pk_mul, nI_add, ksub, kdv, kd8, kd64, kd2, kd3, km8, km64, kt8, ke8, ke64, kcl, kin, kle, klt, keq, up_s, up_n, up_u, true_and, and_true, false_implies, true_implies, not_false_eq_true, not_true_eq_false, m1J, kzl, kcz, knl, gx, gy]
          refine c_wayNow (b := 0) (MT_0 MJ) hk2 hx hy (by decide) (fun K fK hK => ?_)
          obtain ⟨k1, k2⟩ := hK hf
          have g1 : (100000000 ≤ wC (t 1) (tcf (t 3) 0) y x) = False := eq_false (by omega)
          simp (disch := omega) only [pk_mul, nI_add, ksub, kdv, kd8, kd64, kd2, kd3, km8, km64, kt8, ke8, ke64, kcl, kin, kle, klt, keq, up_s, up_n, up_u, true_and, and_true, false_implies, true_implies, not_false_eq_true, not_true_eq_false, g1, k1, kzl, kcz1, kcz3, knl, az, dz, dz2]
          exact hQ _ _ (fr_q1 fJ fK rfl rfl rfl rfl)
        · have gz : (wL (t 1) (tcf (t 3) 0) y x ≤ z) = False := eq_false (by omega)
          have gz2 : (z < wL (t 1) (tcf (t 3) 0) y x) = True := eq_true hz
          simp (disch := omega) only [pk_mul, nI_add, ksub, kdv, kd8, kd64, kd2, kd3, km8, km64, kt8, ke8, ke64, kcl, kin, kle, klt, keq, up_s, up_n, up_u, true_and, and_true, false_implies, true_implies, not_false_eq_true, not_true_eq_false, j1, gz, gz2, j3 z hz, knl]
          refine b_X11_stop_73 ?_
          simp (disch := omega) only [pk_mul, nI_add, ksub, kdv, kd8, kd64, kd2, kd3, km8, km64, kt8, ke8, ke64, kcl, kin, kle, klt, keq, up_s, up_n, up_u, true_and, and_true, false_implies, true_implies, not_false_eq_true, not_true_eq_false, m1J, kzl, kcz, knl, gx, gy]
          refine c_wayNow (b := 0) (MT_0 MJ) hk2 hx hy (by decide) (fun K fK hK => ?_)
          obtain ⟨k1, k2⟩ := hK hf
          have g1 : (100000000 ≤ wC (t 1) (tcf (t 3) 0) y x) = False := eq_false (by omega)
          simp (disch := omega) only [pk_mul, nI_add, ksub, kdv, kd8, kd64, kd2, kd3, km8, km64, kt8, ke8, ke64, kcl, kin, kle, klt, keq, up_s, up_n, up_u, true_and, and_true, false_implies, true_implies, not_false_eq_true, not_true_eq_false, g1, k1, kzl, kcz1, kcz3, knl, gz, gz2, k2 z hz]
          exact hQ _ _ (fr_q1 fJ fK rfl rfl rfl rfl)
      · rw [tcm_0] at hf
        have MJ := fr_MT fJ hM2 rfl
        have m1J := MJ.2.1
        refine ⟨fun _ => ?_, fun h => absurd rfl h⟩
        refine b_X11_stop_73 ?_
        simp (disch := omega) only [pk_mul, nI_add, ksub, kdv, kd8, kd64, kd2, kd3, km8, km64, kt8, ke8, ke64, kcl, kin, kle, klt, keq, up_s, up_n, up_u, true_and, and_true, false_implies, true_implies, not_false_eq_true, not_true_eq_false, m1J, kzl, kcz, knl, gx, gy]
        refine c_wayNow (b := 0) (MT_0 MJ) hk2 hx hy (by decide) (fun K fK hK => ?_)
        have g1 : (100000000 ≤ wC (t 1) (tcf (t 3) 0) y x) = True := eq_true (by omega)
        have g2 := wC_le (t 1) (tcf (t 3) 0) y x
        simp (disch := omega) only [pk_mul, nI_add, ksub, kdv, kd8, kd64, kd2, kd3, km8, km64, kt8, ke8, ke64, kcl, kin, kle, klt, keq, up_s, up_n, up_u, true_and, and_true, false_implies, true_implies, not_false_eq_true, not_true_eq_false, g1]
        exact hQ _ _ (fr_q1 fJ fK rfl rfl rfl rfl)
theorem q_lane {e : am_V} {I : Nat → Nat → Int32} {L : Nat → Nat → Int64} {t : tw} {Q : Int32 → Int32 → (Nat → Nat → Int32) → Prop} {v1 : Int32} {v2 : Int32} {v3 : Int32} (hC : CT t I) (hM : MT t I) (hk : tok t) (hQ : ∀ r J, fr SC FC I J → Q r r J) : C_X10_lane_0 e v1 v2 v3 I L (fun r J => C_X11_lane_73 e v1 v2 v3 J L (fun r' K => Q r r' K)) := by
  have hC2 := hC
  have hM2 := hM
  have hk2 := hk
  obtain ⟨c0, c1, c2, c3, c4, c5, c6, c7, c8, cS, cD, cN, cA, cT, cM, cR, cF, cO, cH, cL⟩ := hC
  obtain ⟨m0, m1, m2, m3, m4, m5, mS, mU, mL, mF, mO, mH, mA, mK⟩ := hM
  obtain ⟨o0, oT, oZ, oY, oD, o9, oN, o28, oB, oX, oE, oF, oA, oH, oU, oV⟩ := hk
  have f0 : fr SC FC I (va_up I 73 (va_up (I 73) 0 (nI 0))) := fr_73 (fr_refl _ _ _) rfl
  rcases crs v1 (t 0 0) (by omega) with ax | ⟨ax, dx⟩ | ⟨x, hx, rfl⟩
  · (refine b_X10_lane_0 ?_; simp (disch := omega) only [pk_mul, nI_add, ksub, kdv, kd8, kd64, kd2, kd3, km8, km64, kt8, ke8, ke64, kcl, kin, kle, klt, keq, up_s, up_n, up_u, true_and, and_true, false_implies, true_implies, not_false_eq_true, not_true_eq_false, ax, c0, knl]; refine b_X11_lane_73 ?_; simp (disch := omega) only [pk_mul, nI_add, ksub, kdv, kd8, kd64, kd2, kd3, km8, km64, kt8, ke8, ke64, kcl, kin, kle, klt, keq, up_s, up_n, up_u, true_and, and_true, false_implies, true_implies, not_false_eq_true, not_true_eq_false, ax, m1, kzl, kcz, knl]; exact hQ _ _ f0)
  · (refine b_X10_lane_0 ?_; simp (disch := omega) only [pk_mul, nI_add, ksub, kdv, kd8, kd64, kd2, kd3, km8, km64, kt8, ke8, ke64, kcl, kin, kle, klt, keq, up_s, up_n, up_u, true_and, and_true, false_implies, true_implies, not_false_eq_true, not_true_eq_false, ax, dx, c0, knl]; refine b_X11_lane_73 ?_; simp (disch := omega) only [pk_mul, nI_add, ksub, kdv, kd8, kd64, kd2, kd3, km8, km64, kt8, ke8, ke64, kcl, kin, kle, klt, keq, up_s, up_n, up_u, true_and, and_true, false_implies, true_implies, not_false_eq_true, not_true_eq_false, ax, dx, m1, kzl, kcz, knl]; exact hQ _ _ f0)
  · have gx : (t 0 0 ≤ x) = False := eq_false (by omega)
    rcases crs v2 (t 0 0) (by omega) with ay | ⟨ay, dy⟩ | ⟨y, hy, rfl⟩
    · (refine b_X10_lane_0 ?_; simp (disch := omega) only [pk_mul, nI_add, ksub, kdv, kd8, kd64, kd2, kd3, km8, km64, kt8, ke8, ke64, kcl, kin, kle, klt, keq, up_s, up_n, up_u, true_and, and_true, false_implies, true_implies, not_false_eq_true, not_true_eq_false, gx, ay, c0, knl]; refine b_X11_lane_73 ?_; simp (disch := omega) only [pk_mul, nI_add, ksub, kdv, kd8, kd64, kd2, kd3, km8, km64, kt8, ke8, ke64, kcl, kin, kle, klt, keq, up_s, up_n, up_u, true_and, and_true, false_implies, true_implies, not_false_eq_true, not_true_eq_false, gx, ay, m1, kzl, kcz, knl]; exact hQ _ _ f0)
    · (refine b_X10_lane_0 ?_; simp (disch := omega) only [pk_mul, nI_add, ksub, kdv, kd8, kd64, kd2, kd3, km8, km64, kt8, ke8, ke64, kcl, kin, kle, klt, keq, up_s, up_n, up_u, true_and, and_true, false_implies, true_implies, not_false_eq_true, not_true_eq_false, gx, ay, dy, c0, knl]; refine b_X11_lane_73 ?_; simp (disch := omega) only [pk_mul, nI_add, ksub, kdv, kd8, kd64, kd2, kd3, km8, km64, kt8, ke8, ke64, kcl, kin, kle, klt, keq, up_s, up_n, up_u, true_and, and_true, false_implies, true_implies, not_false_eq_true, not_true_eq_false, gx, ay, dy, m1, kzl, kcz, knl]; exact hQ _ _ f0)
    · have gy : (t 0 0 ≤ y) = False := eq_false (by omega)
      refine b_X10_lane_0 ?_
      simp (disch := omega) only [pk_mul, nI_add, ksub, kdv, kd8, kd64, kd2, kd3, km8, km64, kt8, ke8, ke64, kcl, kin, kle, klt, keq, up_s, up_n, up_u, true_and, and_true, false_implies, true_implies, not_false_eq_true, not_true_eq_false, c0, knl, gx, gy]
      refine c_find_10 (nw := t 3) (m := 1) hC2 hk2 cR (tok_nw hk2) (by decide) (by omega) (by omega) (fun J hf fJ j1 j2 j3 => ?_) (fun J hf fJ => ?_)
      · rw [tcm_1] at hf j1 j2 j3
        have MJ := fr_MT fJ hM2 rfl
        have m1J := MJ.2.1
        refine ⟨fun h => absurd h (by decide), fun _ => ?_⟩
        have hS := tok_sf hk2 (t 3) 1
        obtain ⟨l1, l2⟩ := wL_b hS (show x < 8 from by omega) hf
        rcases crs v3 (wL (t 1) (tcf (t 3) 1) y x) (by omega) with az | ⟨az, dz⟩ | ⟨z, hz, rfl⟩
        · skip
          simp (disch := omega) only [pk_mul, nI_add, ksub, kdv, kd8, kd64, kd2, kd3, km8, km64, kt8, ke8, ke64, kcl, kin, kle, klt, keq, up_s, up_n, up_u, true_and, and_true, false_implies, true_implies, not_false_eq_true, not_true_eq_false, j1, az, knl]
          refine b_X11_lane_73 ?_
          simp (disch := omega) only [pk_mul, nI_add, ksub, kdv, kd8, kd64, kd2, kd3, km8, km64, kt8, ke8, ke64, kcl, kin, kle, klt, keq, up_s, up_n, up_u, true_and, and_true, false_implies, true_implies, not_false_eq_true, not_true_eq_false, m1J, kzl, kcz, knl, gx, gy]
          refine c_wayNow (b := 1) (MT_0 MJ) hk2 hx hy (by decide) (fun K fK hK => ?_)
          obtain ⟨k1, k2⟩ := hK hf
          have g1 : (100000000 ≤ wC (t 1) (tcf (t 3) 1) y x) = False := eq_false (by omega)
          simp (disch := omega) only [pk_mul, nI_add, ksub, kdv, kd8, kd64, kd2, kd3, km8, km64, kt8, ke8, ke64, kcl, kin, kle, klt, keq, up_s, up_n, up_u, true_and, and_true, false_implies, true_implies, not_false_eq_true, not_true_eq_false, g1, k1, kzl, kcz1, kcz3, knl, az]
          exact hQ _ _ (fr_q1 fJ fK rfl rfl rfl rfl)
        · skip
          have dz2 : (v3 < nI (wL (t 1) (tcf (t 3) 1) y x)) = False := eq_false (i32_nlt dz)
          simp (disch := omega) only [pk_mul, nI_add, ksub, kdv, kd8, kd64, kd2, kd3, km8, km64, kt8, ke8, ke64, kcl, kin, kle, klt, keq, up_s, up_n, up_u, true_and, and_true, false_implies, true_implies, not_false_eq_true, not_true_eq_false, j1, az, dz, dz2, knl]
          refine b_X11_lane_73 ?_
          simp (disch := omega) only [pk_mul, nI_add, ksub, kdv, kd8, kd64, kd2, kd3, km8, km64, kt8, ke8, ke64, kcl, kin, kle, klt, keq, up_s, up_n, up_u, true_and, and_true, false_implies, true_implies, not_false_eq_true, not_true_eq_false, m1J, kzl, kcz, knl, gx, gy]
          refine c_wayNow (b := 1) (MT_0 MJ) hk2 hx hy (by decide) (fun K fK hK => ?_)
          obtain ⟨k1, k2⟩ := hK hf
          have g1 : (100000000 ≤ wC (t 1) (tcf (t 3) 1) y x) = False := eq_false (by omega)
          simp (disch := omega) only [pk_mul, nI_add, ksub, kdv, kd8, kd64, kd2, kd3, km8, km64, kt8, ke8, ke64, kcl, kin, kle, klt, keq, up_s, up_n, up_u, true_and, and_true, false_implies, true_implies, not_false_eq_true, not_true_eq_false, g1, k1, kzl, kcz1, kcz3, knl, az, dz, dz2]
          exact hQ _ _ (fr_q1 fJ fK rfl rfl rfl rfl)
        · have gz : (wL (t 1) (tcf (t 3) 1) y x ≤ z) = False := eq_false (by omega)
          have gz2 : (z < wL (t 1) (tcf (t 3) 1) y x) = True := eq_true hz
          simp (disch := omega) only [pk_mul, nI_add, ksub, kdv, kd8, kd64, kd2, kd3, km8, km64, kt8, ke8, ke64, kcl, kin, kle, klt, keq, up_s, up_n, up_u, true_and, and_true, false_implies, true_implies, not_false_eq_true, not_true_eq_false, j1, gz, gz2, j3 z hz, knl]
          refine b_X11_lane_73 ?_
          simp (disch := omega) only [pk_mul, nI_add, ksub, kdv, kd8, kd64, kd2, kd3, km8, km64, kt8, ke8, ke64, kcl, kin, kle, klt, keq, up_s, up_n, up_u, true_and, and_true, false_implies, true_implies, not_false_eq_true, not_true_eq_false, m1J, kzl, kcz, knl, gx, gy]
          refine c_wayNow (b := 1) (MT_0 MJ) hk2 hx hy (by decide) (fun K fK hK => ?_)
          obtain ⟨k1, k2⟩ := hK hf
          have g1 : (100000000 ≤ wC (t 1) (tcf (t 3) 1) y x) = False := eq_false (by omega)
          simp (disch := omega) only [pk_mul, nI_add, ksub, kdv, kd8, kd64, kd2, kd3, km8, km64, kt8, ke8, ke64, kcl, kin, kle, klt, keq, up_s, up_n, up_u, true_and, and_true, false_implies, true_implies, not_false_eq_true, not_true_eq_false, g1, k1, kzl, kcz1, kcz3, knl, gz, gz2, k2 z hz]
          exact hQ _ _ (fr_q1 fJ fK rfl rfl rfl rfl)
      · rw [tcm_1] at hf
        have MJ := fr_MT fJ hM2 rfl
        have m1J := MJ.2.1
        refine ⟨fun _ => ?_, fun h => absurd rfl h⟩
        refine b_X11_lane_73 ?_
        simp (disch := omega) only [pk_mul, nI_add, ksub, kdv, kd8, kd64, kd2, kd3, km8, km64, kt8, ke8, ke64, kcl, kin, kle, klt, keq, up_s, up_n, up_u, true_and, and_true, false_implies, true_implies, not_false_eq_true, not_true_eq_false, m1J, kzl, kcz, knl, gx, gy]
        refine c_wayNow (b := 1) (MT_0 MJ) hk2 hx hy (by decide) (fun K fK hK => ?_)
        have g1 : (100000000 ≤ wC (t 1) (tcf (t 3) 1) y x) = True := eq_true (by omega)
        have g2 := wC_le (t 1) (tcf (t 3) 1) y x
        simp (disch := omega) only [pk_mul, nI_add, ksub, kdv, kd8, kd64, kd2, kd3, km8, km64, kt8, ke8, ke64, kcl, kin, kle, klt, keq, up_s, up_n, up_u, true_and, and_true, false_implies, true_implies, not_false_eq_true, not_true_eq_false, g1]
        exact hQ _ _ (fr_q1 fJ fK rfl rfl rfl rfl)
