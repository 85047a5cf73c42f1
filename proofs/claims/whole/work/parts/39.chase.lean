/-! bare, chase, demand, dearest, noon -/
theorem c_wayNow2 {e : am_V} {I : Nat → Nat → Int32} {L : Nat → Nat → Int64} {Q : Int32 → (Nat → Nat → Int32) → Prop} {t : tw} {x g b : Nat} (hM : MT t I) (hk : tok t) (hx : x < t 0 0) (hg : g < t 0 0) (hb : b = 0 ∨ b = 1) (hQ : ∀ J, fr [87, 88, 89] [27, 28] I J → (∀ k, k < 512 → J 87 k = nI (t 3 k)) → (wC (t 1) (tcf (t 3) b) g x < 100000000 → J 73 27 = nI (wL (t 1) (tcf (t 3) b) g x) ∧ ∀ i, i < wL (t 1) (tcf (t 3) b) g x → J 89 i = nI (wR (t 1) (tcf (t 3) b) g x i)) → Q (nI (wC (t 1) (tcf (t 3) b) g x)) J) : C_X11_asLeft_73 e I L (fun I2 => C_X11_waysTo_73 e (nI x) (nI g) (nI b) I2 L (fun r J => Q r J)) := by
  have hM2 := hM
  obtain ⟨m0, m1, m2, m3, m4, m5, mS, mU, mL, mF, mO, mH, mA, mK⟩ := hM
  refine c_asLeft mL (fun F hF => ?_)
  refine c_waysTo (MT_mwQ hM2 hk hF (tok_nw hk)) (tok_st hk (t 3) 0).2.1 hx hg hb (fun J fJ hJ => hQ J ?_ ?_ hJ)
  · exact fr_trans (fr_up (fr_refl _ _ _) rfl) (fr_mono fJ rfl rfl)
  · intro k hk5
    rw [fJ.1 87 (by decide) (by decide)]
    exact hF k hk5
theorem tcf_pos {nw : Nat → Nat} {k : Nat} (h : tcf nw 0 k ≤ 1000000) : 0 < nw k := by
  unfold tcf at h
  by_cases h0 : 0 < nw k
  · exact h0
  · rw [if_neg h0, if_neg (by decide)] at h
    omega
theorem c_bareRun {e : am_V} {I : Nat → Nat → Int32} {L : Nat → Nat → Int64} {Q : Int32 → (Nat → Nat → Int32) → Prop} {t : tw} {x g : Nat} (hM : MT t I) (hk : tok t) (hx : x < t 0 0) (hg : g < t 0 0) (hQ : ∀ J, fr [87, 88, 89] [27, 28] I J → ((nI (wC (t 1) (tcf (fun _ => 1) 0) g x) < nI 100000000 → Q ((nI (wC (t 1) (tcf (fun _ => 1) 0) g x) - nI (wC (t 1) (tcf (fun _ => 1) 0) g x) / nI 1000000 * nI 1000000) / nI 100) J) ∧ (¬ nI (wC (t 1) (tcf (fun _ => 1) 0) g x) < nI 100000000 → Q (-1 : Int32) J))) : T_X11_bare_73_p28 e (nI x) (nI g) (nI 0) I L Q := by
  have h0 : T_X11_bare_73_p28 e (nI x) (nI g) (nI 0) (va_up I 87 (I 87)) L Q := by
    refine lp_up (n := 512) (S := Nat → Int32) (T := fun k F => T_X11_bare_73_p28 e (nI x) (nI g) (nI k) (va_up I 87 F) L Q) (fun k F => ∀ j, j < k → F j = nI 1) ?_ ?_ 0 (I 87) (Nat.zero_le _) (fun j h => absurd h (Nat.not_lt_zero _))
    · intro k F hk hi hnext
      refine b_X11_bare_73_p28 ?_
      have hnk : (512 ≤ k) = False := eq_false (by omega)
      simp (disch := omega) only [pk_mul, nI_add, ksub, kdv, kd8, kd64, kd2, kd3, km8, km64, kt8, ke8, ke64, kcl, kin, kle, klt, keq, up_s, up_n, up_u, true_and, and_true, false_implies, true_implies, not_false_eq_true, not_true_eq_false, hnk]
      refine hnext _ (fun j hj => ?_)
      by_cases he : j = k
      · rw [he, up_s]
      · rw [up_n he]; exact hi j (by omega)
    · intro F hi
      refine b_X11_bare_73_p28 ?_
      have hnn : (512 ≤ 512) = True := eq_true (Nat.le_refl _)
      simp (disch := omega) only [pk_mul, nI_add, ksub, kdv, kd8, kd64, kd2, kd3, km8, km64, kt8, ke8, ke64, kcl, kin, kle, klt, keq, up_s, up_n, up_u, true_and, and_true, false_implies, true_implies, not_false_eq_true, not_true_eq_false, hnn]
      refine c_waysTo (nw := fun _ => 1) (MT_mwQ hM hk hi (fun _ _ => by decide)) (tok_st hk (t 3) 0).2.1 hx hg (Or.inl rfl) (fun J fJ hJ => hQ J ?_)
      exact fr_trans (fr_up (fr_refl _ _ _) rfl) (fr_mono fJ rfl rfl)
  rw [up_id] at h0
  exact h0
theorem q_bare {e : am_V} {I : Nat → Nat → Int32} {L : Nat → Nat → Int64} {t : tw} {Q : Int32 → Int32 → (Nat → Nat → Int32) → Prop} {v1 : Int32} {v2 : Int32} (hC : CT t I) (hM : MT t I) (hk : tok t) (hQ : ∀ r J, fr SC FC I J → Q r r J) : C_X10_bare_0 e v1 v2 I L (fun r J => C_X11_bare_73 e v1 v2 J L (fun r' K => Q r r' K)) := by
  have hC2 := hC
  have hM2 := hM
  have hk2 := hk
  obtain ⟨c0, c1, c2, c3, c4, c5, c6, c7, c8, cS, cD, cN, cA, cT, cM, cR, cF, cO, cH, cL⟩ := hC
  obtain ⟨m0, m1, m2, m3, m4, m5, mS, mU, mL, mF, mO, mH, mA, mK⟩ := hM
  obtain ⟨o0, oT, oZ, oY, oD, o9, oN, o28, oB, oX, oE, oF, oA, oH, oU, oV⟩ := hk
  have f0 : fr SC FC I (va_up I 73 (va_up (I 73) 0 (nI 0))) := fr_73 (fr_refl _ _ _) rfl
  rcases crs v1 (t 0 0) (by omega) with ax | ⟨ax, dx⟩ | ⟨x, hx, rfl⟩
  · (refine b_X10_bare_0 ?_; simp (disch := omega) only [pk_mul, nI_add, ksub, kdv, kd8, kd64, kd2, kd3, km8, km64, kt8, ke8, ke64, kcl, kin, kle, klt, keq, up_s, up_n, up_u, true_and, and_true, false_implies, true_implies, not_false_eq_true, not_true_eq_false, ax, c0, knl]; refine b_X11_bare_73 ?_; simp (disch := omega) only [pk_mul, nI_add, ksub, kdv, kd8, kd64, kd2, kd3, km8, km64, kt8, ke8, ke64, kcl, kin, kle, klt, keq, up_s, up_n, up_u, true_and, and_true, false_implies, true_implies, not_false_eq_true, not_true_eq_false, ax, m1, kzl, kcz, knl]; exact hQ _ _ f0)
  · (refine b_X10_bare_0 ?_; simp (disch := omega) only [pk_mul, nI_add, ksub, kdv, kd8, kd64, kd2, kd3, km8, km64, kt8, ke8, ke64, kcl, kin, kle, klt, keq, up_s, up_n, up_u, true_and, and_true, false_implies, true_implies, not_false_eq_true, not_true_eq_false, ax, dx, c0, knl]; refine b_X11_bare_73 ?_; simp (disch := omega) only [pk_mul, nI_add, ksub, kdv, kd8, kd64, kd2, kd3, km8, km64, kt8, ke8, ke64, kcl, kin, kle, klt, keq, up_s, up_n, up_u, true_and, and_true, false_implies, true_implies, not_false_eq_true, not_true_eq_false, ax, dx, m1, kzl, kcz, knl]; exact hQ _ _ f0)
  · have gx : (t 0 0 ≤ x) = False := eq_false (by omega)
    rcases crs v2 (t 0 0) (by omega) with ay | ⟨ay, dy⟩ | ⟨y, hy, rfl⟩
    · (refine b_X10_bare_0 ?_; simp (disch := omega) only [pk_mul, nI_add, ksub, kdv, kd8, kd64, kd2, kd3, km8, km64, kt8, ke8, ke64, kcl, kin, kle, klt, keq, up_s, up_n, up_u, true_and, and_true, false_implies, true_implies, not_false_eq_true, not_true_eq_false, gx, ay, c0, knl]; refine b_X11_bare_73 ?_; simp (disch := omega) only [pk_mul, nI_add, ksub, kdv, kd8, kd64, kd2, kd3, km8, km64, kt8, ke8, ke64, kcl, kin, kle, klt, keq, up_s, up_n, up_u, true_and, and_true, false_implies, true_implies, not_false_eq_true, not_true_eq_false, gx, ay, m1, kzl, kcz, knl]; exact hQ _ _ f0)
    · (refine b_X10_bare_0 ?_; simp (disch := omega) only [pk_mul, nI_add, ksub, kdv, kd8, kd64, kd2, kd3, km8, km64, kt8, ke8, ke64, kcl, kin, kle, klt, keq, up_s, up_n, up_u, true_and, and_true, false_implies, true_implies, not_false_eq_true, not_true_eq_false, gx, ay, dy, c0, knl]; refine b_X11_bare_73 ?_; simp (disch := omega) only [pk_mul, nI_add, ksub, kdv, kd8, kd64, kd2, kd3, km8, km64, kt8, ke8, ke64, kcl, kin, kle, klt, keq, up_s, up_n, up_u, true_and, and_true, false_implies, true_implies, not_false_eq_true, not_true_eq_false, gx, ay, dy, m1, kzl, kcz, knl]; exact hQ _ _ f0)
    · have gy : (t 0 0 ≤ y) = False := eq_false (by omega)
      refine b_X10_bare_0 ?_
      simp (disch := omega) only [pk_mul, nI_add, ksub, kdv, kd8, kd64, kd2, kd3, km8, km64, kt8, ke8, ke64, kcl, kin, kle, klt, keq, up_s, up_n, up_u, true_and, and_true, false_implies, true_implies, not_false_eq_true, not_true_eq_false, c0, knl, gx, gy]
      refine c_find_10 (nw := t 3) (m := 2) hC2 hk2 cR (tok_nw hk2) (by decide) (by omega) (by omega) (fun J hf fJ j1 j2 j3 => ?_) (fun J hf fJ => ?_)
      · rw [tcm_2] at hf j1 j2 j3
        have MJ := fr_MT fJ hM2 rfl
        have m1J := MJ.2.1
        refine ⟨fun h => absurd h (by decide), fun _ => ?_⟩
        have hS := tok_sf hk2 (fun _ => 1) 0
        rw [j2, wlen_c hS (by omega) hf]
        refine b_X11_bare_73 ?_
        simp (disch := omega) only [pk_mul, nI_add, ksub, kdv, kd8, kd64, kd2, kd3, km8, km64, kt8, ke8, ke64, kcl, kin, kle, klt, keq, up_s, up_n, up_u, true_and, and_true, false_implies, true_implies, not_false_eq_true, not_true_eq_false, m1J, kzl, kcz, knl, gx, gy]
        refine c_bareRun (MT_0 MJ) hk2 hx hy (fun K fK => ?_)
        have g2 := wC_le (t 1) (tcf (fun _ => 1) 0) y x
        have g1 : (wC (t 1) (tcf (fun _ => 1) 0) y x < 100000000) = True := eq_true hf
        rw [wlen_m hf]
        simp (disch := omega) only [pk_mul, nI_add, ksub, kdv, kd8, kd64, kd2, kd3, km8, km64, kt8, ke8, ke64, kcl, kin, kle, klt, keq, up_s, up_n, up_u, true_and, and_true, false_implies, true_implies, not_false_eq_true, not_true_eq_false, g1]
        exact hQ _ _ (fr_q1 fJ fK rfl rfl rfl rfl)
      · rw [tcm_2] at hf
        have MJ := fr_MT fJ hM2 rfl
        have m1J := MJ.2.1
        refine ⟨fun _ => ?_, fun h => absurd rfl h⟩
        have hS := tok_sf hk2 (fun _ => 1) 0
        refine b_X11_bare_73 ?_
        simp (disch := omega) only [pk_mul, nI_add, ksub, kdv, kd8, kd64, kd2, kd3, km8, km64, kt8, ke8, ke64, kcl, kin, kle, klt, keq, up_s, up_n, up_u, true_and, and_true, false_implies, true_implies, not_false_eq_true, not_true_eq_false, m1J, kzl, kcz, knl, gx, gy]
        refine c_bareRun (MT_0 MJ) hk2 hx hy (fun K fK => ?_)
        have g2 := wC_le (t 1) (tcf (fun _ => 1) 0) y x
        have g1 : (wC (t 1) (tcf (fun _ => 1) 0) y x < 100000000) = False := eq_false hf
        simp (disch := omega) only [pk_mul, nI_add, ksub, kdv, kd8, kd64, kd2, kd3, km8, km64, kt8, ke8, ke64, kcl, kin, kle, klt, keq, up_s, up_n, up_u, true_and, and_true, false_implies, true_implies, not_false_eq_true, not_true_eq_false, g1]
        exact hQ _ _ (fr_q1 fJ fK rfl rfl rfl rfl)
theorem c_chaseRun {e : am_V} {I : Nat → Nat → Int32} {L : Nat → Nat → Int64} {Q : Int32 → (Nat → Nat → Int32) → Prop} {t : tw} {nw R : Nat → Nat} {len m : Nat} {g z : Nat} {F : Nat → Int32} (hlen0 : I 73 27 = nI len) (h40 : ∀ i, i < len → I 89 i = nI (R i)) (hlen : len ≤ 40) (hm : m = len - 2) (hw : wayok (t 1) R m) (hb : ∀ k, k < 512 → nw k ≤ 1000) (hF : ∀ k, k < 512 → F k = nI (nw k)) (hQ : ∀ F', (∀ k, k < 512 → F' k = nI (spd (fun _ => 0) nw R m k)) → C_X11_waysTo_73 e (nI z) (nI g) (nI 0) (va_up I 87 F') L (fun r32 I33 => ((r32 < nI 100000000 → Q ((r32 - r32 / nI 1000000 * nI 1000000) / nI 100) I33) ∧ (¬ r32 < nI 100000000 → Q (-1 : Int32) I33)))) : T_X11_chase_73_p39 e (nI g) (nI z) (nI 0) (va_up I 87 F) L Q := by
  refine lp_up (n := m) (S := Nat → Int32) (T := fun j F => T_X11_chase_73_p39 e (nI g) (nI z) (nI j) (va_up I 87 F) L Q) (fun j F => ∀ k, k < 512 → F k = nI (spd (fun _ => 0) nw R j k)) ?_ ?_ 0 F (Nat.zero_le _) hF
  · intro j F hj hi hnext
    have r0 := h40 (j) (by omega)
    have r1 := h40 (j + 1) (by omega)
    have r2 := h40 (j + 2) (by omega)
    have z0 := hw.1 j
    have z1 := hw.1 (j + 1)
    have z2 := hw.1 (j + 2)
    have hT := wT_t hw hj
    have hT5 := wT_b (j := j) hw
    have e1 : F (64 * R j + 8 * R (j + 1) + R (j + 2)) = nI (nw (64 * R j + 8 * R (j + 1) + R (j + 2))) := by
      have h5 := hi (wT R j) hT5
      rw [spd_n hw hj] at h5
      exact h5
    have hbb := hb (64 * R j + 8 * R (j + 1) + R (j + 2)) (by omega)
    have q1 : (len ≤ j + 2) = False := eq_false (by omega)
    have q2 : j + 2 - 2 = j := by omega
    have q3 : j + 2 - 1 = j + 1 := by omega
    refine b_X11_chase_73_p39 ?_
    simp (disch := omega) only [pk_mul, nI_add, ksub, kdv, kd8, kd64, kd2, kd3, km8, km64, kt8, ke8, ke64, kcl, kin, kle, klt, keq, up_s, up_n, up_u, true_and, and_true, false_implies, true_implies, not_false_eq_true, not_true_eq_false, q1, q2, q3, r0, r1, r2, e1, kp1, kmx, hlen0]
    refine hnext _ (fun k hk5 => ?_)
    by_cases he : k = wT R j
    · rw [he, spd_e]
      show va_up F (wT R j) _ (wT R j) = _
      exact up_s
    · rw [spd_o he]
      show va_up F (wT R j) _ k = _
      rw [up_n he]
      exact hi k hk5
  · intro F hi
    have q1 : (len ≤ m + 2) = True := eq_true (by omega)
    refine b_X11_chase_73_p39 ?_
    simp (disch := omega) only [pk_mul, nI_add, ksub, kdv, kd8, kd64, kd2, kd3, km8, km64, kt8, ke8, ke64, kcl, kin, kle, klt, keq, up_s, up_n, up_u, true_and, and_true, false_implies, true_implies, not_false_eq_true, not_true_eq_false, q1, hlen0]
    exact hQ F hi
theorem q_chase {e : am_V} {I : Nat → Nat → Int32} {L : Nat → Nat → Int64} {t : tw} {Q : Int32 → Int32 → (Nat → Nat → Int32) → Prop} {v1 : Int32} {v2 : Int32} {v3 : Int32} (hC : CT t I) (hM : MT t I) (hk : tok t) (hQ : ∀ r J, fr SC FC I J → Q r r J) : C_X10_chase_0 e v1 v2 v3 I L (fun r J => C_X11_chase_73 e v1 v2 v3 J L (fun r' K => Q r r' K)) := by
  have hC2 := hC
  have hM2 := hM
  have hk2 := hk
  obtain ⟨c0, c1, c2, c3, c4, c5, c6, c7, c8, cS, cD, cN, cA, cT, cM, cR, cF, cO, cH, cL⟩ := hC
  obtain ⟨m0, m1, m2, m3, m4, m5, mS, mU, mL, mF, mO, mH, mA, mK⟩ := hM
  obtain ⟨o0, oT, oZ, oY, oD, o9, oN, o28, oB, oX, oE, oF, oA, oH, oU, oV⟩ := hk
  have f0 : fr SC FC I (va_up I 73 (va_up (I 73) 0 (nI 0))) := fr_73 (fr_refl _ _ _) rfl
  rcases crs v1 (t 0 0) (by omega) with ax | ⟨ax, dx⟩ | ⟨x, hx, rfl⟩
  · (refine b_X10_chase_0 ?_; simp (disch := omega) only [pk_mul, nI_add, ksub, kdv, kd8, kd64, kd2, kd3, km8, km64, kt8, ke8, ke64, kcl, kin, kle, klt, keq, up_s, up_n, up_u, true_and, and_true, false_implies, true_implies, not_false_eq_true, not_true_eq_false, ax, c0, knl]; refine b_X11_chase_73 ?_; simp (disch := omega) only [pk_mul, nI_add, ksub, kdv, kd8, kd64, kd2, kd3, km8, km64, kt8, ke8, ke64, kcl, kin, kle, klt, keq, up_s, up_n, up_u, true_and, and_true, false_implies, true_implies, not_false_eq_true, not_true_eq_false, ax, m1, kzl, kcz, knl]; exact hQ _ _ f0)
  · (refine b_X10_chase_0 ?_; simp (disch := omega) only [pk_mul, nI_add, ksub, kdv, kd8, kd64, kd2, kd3, km8, km64, kt8, ke8, ke64, kcl, kin, kle, klt, keq, up_s, up_n, up_u, true_and, and_true, false_implies, true_implies, not_false_eq_true, not_true_eq_false, ax, dx, c0, knl]; refine b_X11_chase_73 ?_; simp (disch := omega) only [pk_mul, nI_add, ksub, kdv, kd8, kd64, kd2, kd3, km8, km64, kt8, ke8, ke64, kcl, kin, kle, klt, keq, up_s, up_n, up_u, true_and, and_true, false_implies, true_implies, not_false_eq_true, not_true_eq_false, ax, dx, m1, kzl, kcz, knl]; exact hQ _ _ f0)
  · have gx : (t 0 0 ≤ x) = False := eq_false (by omega)
    rcases crs v2 (t 0 0) (by omega) with ay | ⟨ay, dy⟩ | ⟨y, hy, rfl⟩
    · (refine b_X10_chase_0 ?_; simp (disch := omega) only [pk_mul, nI_add, ksub, kdv, kd8, kd64, kd2, kd3, km8, km64, kt8, ke8, ke64, kcl, kin, kle, klt, keq, up_s, up_n, up_u, true_and, and_true, false_implies, true_implies, not_false_eq_true, not_true_eq_false, gx, ay, c0, knl]; refine b_X11_chase_73 ?_; simp (disch := omega) only [pk_mul, nI_add, ksub, kdv, kd8, kd64, kd2, kd3, km8, km64, kt8, ke8, ke64, kcl, kin, kle, klt, keq, up_s, up_n, up_u, true_and, and_true, false_implies, true_implies, not_false_eq_true, not_true_eq_false, gx, ay, m1, kzl, kcz, knl]; exact hQ _ _ f0)
    · (refine b_X10_chase_0 ?_; simp (disch := omega) only [pk_mul, nI_add, ksub, kdv, kd8, kd64, kd2, kd3, km8, km64, kt8, ke8, ke64, kcl, kin, kle, klt, keq, up_s, up_n, up_u, true_and, and_true, false_implies, true_implies, not_false_eq_true, not_true_eq_false, gx, ay, dy, c0, knl]; refine b_X11_chase_73 ?_; simp (disch := omega) only [pk_mul, nI_add, ksub, kdv, kd8, kd64, kd2, kd3, km8, km64, kt8, ke8, ke64, kcl, kin, kle, klt, keq, up_s, up_n, up_u, true_and, and_true, false_implies, true_implies, not_false_eq_true, not_true_eq_false, gx, ay, dy, m1, kzl, kcz, knl]; exact hQ _ _ f0)
    · have gy : (t 0 0 ≤ y) = False := eq_false (by omega)
      rcases crs v3 (t 0 0) (by omega) with az | ⟨az, dz⟩ | ⟨z, hz, rfl⟩
      · (refine b_X10_chase_0 ?_; simp (disch := omega) only [pk_mul, nI_add, ksub, kdv, kd8, kd64, kd2, kd3, km8, km64, kt8, ke8, ke64, kcl, kin, kle, klt, keq, up_s, up_n, up_u, true_and, and_true, false_implies, true_implies, not_false_eq_true, not_true_eq_false, gx, gy, az, c0, knl]; refine b_X11_chase_73 ?_; simp (disch := omega) only [pk_mul, nI_add, ksub, kdv, kd8, kd64, kd2, kd3, km8, km64, kt8, ke8, ke64, kcl, kin, kle, klt, keq, up_s, up_n, up_u, true_and, and_true, false_implies, true_implies, not_false_eq_true, not_true_eq_false, gx, gy, az, m1, kzl, kcz, knl]; exact hQ _ _ f0)
      · (refine b_X10_chase_0 ?_; simp (disch := omega) only [pk_mul, nI_add, ksub, kdv, kd8, kd64, kd2, kd3, km8, km64, kt8, ke8, ke64, kcl, kin, kle, klt, keq, up_s, up_n, up_u, true_and, and_true, false_implies, true_implies, not_false_eq_true, not_true_eq_false, gx, gy, az, dz, c0, knl]; refine b_X11_chase_73 ?_; simp (disch := omega) only [pk_mul, nI_add, ksub, kdv, kd8, kd64, kd2, kd3, km8, km64, kt8, ke8, ke64, kcl, kin, kle, klt, keq, up_s, up_n, up_u, true_and, and_true, false_implies, true_implies, not_false_eq_true, not_true_eq_false, gx, gy, az, dz, m1, kzl, kcz, knl]; exact hQ _ _ f0)
      · have gz : (t 0 0 ≤ z) = False := eq_false (by omega)
        have hS := tok_sf hk2 (t 3) 0
        refine b_X10_chase_0 ?_
        simp (disch := omega) only [pk_mul, nI_add, ksub, kdv, kd8, kd64, kd2, kd3, km8, km64, kt8, ke8, ke64, kcl, kin, kle, klt, keq, up_s, up_n, up_u, true_and, and_true, false_implies, true_implies, not_false_eq_true, not_true_eq_false, c0, knl, gx, gy, gz]
        refine c_find_10 (nw := t 3) (m := 0) hC2 hk2 cR (tok_nw hk2) (by decide) (by omega) (by omega) (fun J hf fJ j1 j2 j3 => ?_) (fun J hf fJ => ?_)
        · rw [tcm_0] at hf j1 j2 j3
          refine ⟨fun h => absurd h (by decide), fun _ => ?_⟩
          obtain ⟨l1, l2⟩ := wL_b hS (show x < 8 from by omega) hf
          obtain ⟨wk, _⟩ := wR_ok hS (show x < 8 from by omega) hf
          have CJ := fr_CT fJ hC2 rfl
          refine c_burn_2 (t := t) (nw := t 3) (R := wR (t 1) (tcf (t 3) 0) y x) (len := wL (t 1) (tcf (t 3) 0) y x) (m := wL (t 1) (tcf (t 3) 0) y x - 2) j1 j3 (by omega) rfl wk (tok_nw hk2) (fun k hk5 hp5 => ?_) (fun F2 hF2 => ?_)
          · rw [cpy0 hk5]; exact CJ.2.2.2.2.2.2.2.2.2.2.2.2.2.2.2.1 k hk5 hp5
          · have fJ2 : fr [2, 38, 39, 40] [] I (va_up J 2 F2) := fr_up (fr_mono fJ rfl rfl) rfl
            have hnb : ∀ k, k < 512 → spd (fun _ => 0) (t 3) (wR (t 1) (tcf (t 3) 0) y x) (wL (t 1) (tcf (t 3) 0) y x - 2) k ≤ 1000 := spd_b (tok_nw hk2) (fun _ _ => Nat.zero_le _)
            refine c_find_2 (nw := spd (fun _ => 0) (t 3) (wR (t 1) (tcf (t 3) 0) y x) (wL (t 1) (tcf (t 3) 0) y x - 2)) (m := 0) (fr_CT fJ2 hC2 rfl) hk2 hF2 hnb (by decide) (by omega) (by omega) (fun K hf2 fK k1 k2 k3 => ?_) (fun K hf2 fK => ?_)
            · rw [tcm_0] at hf2 k1 k2 k3
              refine ⟨fun h => absurd h (by decide), fun _ => ?_⟩
              rw [k2, wlen_c (tok_sf hk2 _ 0) (by omega) hf2]
              have fK2 := fr_trans fJ2 (fr_mono fK rfl rfl)
              have MK := fr_MT fK2 hM2 rfl
              have m1J := MK.2.1
              refine b_X11_chase_73 ?_
              simp (disch := omega) only [pk_mul, nI_add, ksub, kdv, kd8, kd64, kd2, kd3, km8, km64, kt8, ke8, ke64, kcl, kin, kle, klt, keq, up_s, up_n, up_u, true_and, and_true, false_implies, true_implies, not_false_eq_true, not_true_eq_false, m1J, kzl, kcz, knl, gx, gy, gz]
              refine c_wayNow2 (b := 0) (MT_0 MK) hk2 hx hy (by decide) (fun N fN hN hN2 => ?_)
              obtain ⟨n1, n2⟩ := hN2 hf
              have g1 : (wC (t 1) (tcf (t 3) 0) y x < 100000000) = True := eq_true hf
              simp (disch := omega) only [pk_mul, nI_add, ksub, kdv, kd8, kd64, kd2, kd3, km8, km64, kt8, ke8, ke64, kcl, kin, kle, klt, keq, up_s, up_n, up_u, true_and, and_true, false_implies, true_implies, not_false_eq_true, not_true_eq_false, g1]
              have hrun := c_chaseRun (e := e) (I := N) (L := L) (t := t) (nw := t 3) (R := wR (t 1) (tcf (t 3) 0) y x) (len := wL (t 1) (tcf (t 3) 0) y x) (m := wL (t 1) (tcf (t 3) 0) y x - 2) (F := N 87) (g := y) (z := z) (Q := fun r' K => Q (nI (wC (t 1) (tcf (spd (fun _ => 0) (t 3) (wR (t 1) (tcf (t 3) 0) y x) (wL (t 1) (tcf (t 3) 0) y x - 2)) 0) y z % 1000000 / 100)) r' K) n1 n2 (by omega) rfl wk (tok_nw hk2) hN (fun F3 hF3 => ?_)
              · rw [up_id] at hrun
                exact hrun
              · have MN := fr_MT fN (MT_0 MK) rfl
                refine c_waysTo (nw := spd (fun _ => 0) (t 3) (wR (t 1) (tcf (t 3) 0) y x) (wL (t 1) (tcf (t 3) 0) y x - 2)) (MT_mwQ MN hk2 hF3 hnb) (tok_st hk2 (t 3) 0).2.1 hz hy (Or.inl rfl) (fun N2 fN2 hN3 => ?_)
                have g2 := wC_le (t 1) (tcf (spd (fun _ => 0) (t 3) (wR (t 1) (tcf (t 3) 0) y x) (wL (t 1) (tcf (t 3) 0) y x - 2)) 0) y z
                have g3 : (wC (t 1) (tcf (spd (fun _ => 0) (t 3) (wR (t 1) (tcf (t 3) 0) y x) (wL (t 1) (tcf (t 3) 0) y x - 2)) 0) y z < 100000000) = True := eq_true hf2
                rw [wlen_m hf2]
                simp (disch := omega) only [pk_mul, nI_add, ksub, kdv, kd8, kd64, kd2, kd3, km8, km64, kt8, ke8, ke64, kcl, kin, kle, klt, keq, up_s, up_n, up_u, true_and, and_true, false_implies, true_implies, not_false_eq_true, not_true_eq_false, g3]
                exact hQ _ _ (fr_q1 fK2 (fr_trans fN (fr_trans (fr_up (fr_refl _ _ _) rfl) (fr_mono fN2 rfl rfl))) rfl rfl rfl rfl)
            · rw [tcm_0] at hf2
              refine ⟨fun _ => ?_, fun h => absurd rfl h⟩
              have fK2 := fr_trans fJ2 (fr_mono fK rfl rfl)
              have MK := fr_MT fK2 hM2 rfl
              have m1J := MK.2.1
              refine b_X11_chase_73 ?_
              simp (disch := omega) only [pk_mul, nI_add, ksub, kdv, kd8, kd64, kd2, kd3, km8, km64, kt8, ke8, ke64, kcl, kin, kle, klt, keq, up_s, up_n, up_u, true_and, and_true, false_implies, true_implies, not_false_eq_true, not_true_eq_false, m1J, kzl, kcz, knl, gx, gy, gz]
              refine c_wayNow2 (b := 0) (MT_0 MK) hk2 hx hy (by decide) (fun N fN hN hN2 => ?_)
              obtain ⟨n1, n2⟩ := hN2 hf
              have g1 : (wC (t 1) (tcf (t 3) 0) y x < 100000000) = True := eq_true hf
              simp (disch := omega) only [pk_mul, nI_add, ksub, kdv, kd8, kd64, kd2, kd3, km8, km64, kt8, ke8, ke64, kcl, kin, kle, klt, keq, up_s, up_n, up_u, true_and, and_true, false_implies, true_implies, not_false_eq_true, not_true_eq_false, g1]
              have hrun := c_chaseRun (e := e) (I := N) (L := L) (t := t) (nw := t 3) (R := wR (t 1) (tcf (t 3) 0) y x) (len := wL (t 1) (tcf (t 3) 0) y x) (m := wL (t 1) (tcf (t 3) 0) y x - 2) (F := N 87) (g := y) (z := z) (Q := fun r' K => Q (-1 : Int32) r' K) n1 n2 (by omega) rfl wk (tok_nw hk2) hN (fun F3 hF3 => ?_)
              · rw [up_id] at hrun
                exact hrun
              · have MN := fr_MT fN (MT_0 MK) rfl
                refine c_waysTo (nw := spd (fun _ => 0) (t 3) (wR (t 1) (tcf (t 3) 0) y x) (wL (t 1) (tcf (t 3) 0) y x - 2)) (MT_mwQ MN hk2 hF3 hnb) (tok_st hk2 (t 3) 0).2.1 hz hy (Or.inl rfl) (fun N2 fN2 hN3 => ?_)
                have g2 := wC_le (t 1) (tcf (spd (fun _ => 0) (t 3) (wR (t 1) (tcf (t 3) 0) y x) (wL (t 1) (tcf (t 3) 0) y x - 2)) 0) y z
                have g3 : (wC (t 1) (tcf (spd (fun _ => 0) (t 3) (wR (t 1) (tcf (t 3) 0) y x) (wL (t 1) (tcf (t 3) 0) y x - 2)) 0) y z < 100000000) = False := eq_false hf2
                simp (disch := omega) only [pk_mul, nI_add, ksub, kdv, kd8, kd64, kd2, kd3, km8, km64, kt8, ke8, ke64, kcl, kin, kle, klt, keq, up_s, up_n, up_u, true_and, and_true, false_implies, true_implies, not_false_eq_true, not_true_eq_false, g3]
                exact hQ _ _ (fr_q1 fK2 (fr_trans fN (fr_trans (fr_up (fr_refl _ _ _) rfl) (fr_mono fN2 rfl rfl))) rfl rfl rfl rfl)
        · rw [tcm_0] at hf
          refine ⟨fun _ => ?_, fun h => absurd rfl h⟩
          have MJ := fr_MT fJ hM2 rfl
          have m1J := MJ.2.1
          refine b_X11_chase_73 ?_
          simp (disch := omega) only [pk_mul, nI_add, ksub, kdv, kd8, kd64, kd2, kd3, km8, km64, kt8, ke8, ke64, kcl, kin, kle, klt, keq, up_s, up_n, up_u, true_and, and_true, false_implies, true_implies, not_false_eq_true, not_true_eq_false, m1J, kzl, kcz, knl, gx, gy, gz]
          refine c_wayNow2 (b := 0) (MT_0 MJ) hk2 hx hy (by decide) (fun N fN hN hN2 => ?_)
          have g2 := wC_le (t 1) (tcf (t 3) 0) y x
          have g1 : (wC (t 1) (tcf (t 3) 0) y x < 100000000) = False := eq_false hf
          simp (disch := omega) only [pk_mul, nI_add, ksub, kdv, kd8, kd64, kd2, kd3, km8, km64, kt8, ke8, ke64, kcl, kin, kle, klt, keq, up_s, up_n, up_u, true_and, and_true, false_implies, true_implies, not_false_eq_true, not_true_eq_false, g1]
          exact hQ _ _ (fr_q1 fJ fN rfl rfl rfl rfl)
