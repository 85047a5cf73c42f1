/-! take, give, taken back, laws and errands: the class answers as the reference does, and the towns stay one (by gen_54.py) -/
theorem Rel_up {B : tw → Nat × Nat × (Nat → Nat)} {e : am_V} {t t' : tw} {I J : Nat → Nat → Int32} {L : Nat → Nat → Int64} {m : Nat} (h : Rel B e t I L m) (hm : m < 1000000) (hk : tok t') (hC : CT t' J) (hM : MT t' J) (h0 : J 0 = va_up (I 0) 12 (I 0 12 + nI 1)) (h73 : J 73 = va_up (I 73) 0 (nI 0)) (hr : ∀ a, a ≠ 0 → (a < 3 ∨ 14 < a) → a ≠ 73 → (a < 79 ∨ 85 < a) → J a = I a) (h79 : ∀ k, 1 ≤ k → J 79 k = I 79 k) (h80 : ∀ k, 5 ≤ k → J 80 k = I 80 k) (h81 : ∀ k, 64 ≤ k → J 81 k = I 81 k) (h82 : ∀ k, 512 ≤ k → J 82 k = I 82 k) (h83 : ∀ k, 512 ≤ k → J 83 k = I 83 k) (h84 : ∀ k, 18 ≤ k → J 84 k = I 84 k) (h85 : ∀ k, 120 ≤ k → J 85 k = I 85 k) : Rel B e t' J L (m + 1) := by
  obtain ⟨_, _, _, h4, h5, h6, h7⟩ := h
  refine ⟨hk, hC, hM, ?_, SL_c h5 (fun s hs => hr _ (by omega) (by omega) (by omega) (by omega)) (hr _ (by omega) (by omega) (by omega) (by omega)) (hr _ (by omega) (by omega) (by omega) (by omega)) (frL_r L), IM_p h6 (hr _ (by omega) (by omega) (by omega) (by omega)) (fun a ha => hr _ (by omega) (by omega) (by omega) (by omega)) h79 h80 h81 h82 h83 h84 h85, OC_up h7 hm (by rw [h0, up_s]) (by rw [h0, up_n (by decide)])⟩
  obtain ⟨tp, g1, g2, g3, g4, g5, g6⟩ := h4
  have e1 : J 1 = I 1 := hr _ (by omega) (by omega) (by omega) (by omega)
  have e2 : J 78 = I 78 := hr _ (by omega) (by omega) (by omega) (by omega)
  have e3 : J 37 = I 37 := hr _ (by omega) (by omega) (by omega) (by omega)
  refine ⟨tp, g1, ?_, ?_, ?_, ?_, ?_⟩
  · rw [e3]; exact g2
  · rw [h73, up_n (by decide)]; exact g3
  · rw [e1, e2]; exact g4
  · rw [e3, h73, up_n (by decide)]; exact g5
  · rw [e3, h73, up_n (by decide)]; exact g6
theorem k11 : ((1 : Nat) = 1) = True := eq_true rfl
theorem k01 : ((0 : Nat) = 1) = False := eq_false (by decide)
theorem r_take {B : tw → Nat × Nat × (Nat → Nat)} {e : am_V} {I : Nat → Nat → Int32} {L : Nat → Nat → Int64} {t : tw} {m : Nat} {Q : Int32 → Int32 → (Nat → Nat → Int32) → Prop} {v1 : Int32} {v2 : Int32} {v3 : Int32} (hR : Rel B e t I L m) (hm : m < 1000000) (hQ : ∀ r J t', Rel B e t' J L (m + 1) → Q r r J) : C_X10_take_0 e v1 v2 v3 I L (fun r J => C_X11_take_73 e v1 v2 v3 J L (fun r' K => Q r r' K)) := by
  have f1 : Rel B e t (va_up I 73 (va_up (I 73) 0 (nI 0))) L (m + 1) := Rel_q hR (fr_73 (fr_refl _ _ _) rfl) (frL_r L) (by omega)
  have hk := hR.1
  have hC := hR.2.1
  have hM := hR.2.2.1
  have hk2 := hk
  have hC2 := hC
  have hM2 := hM
  obtain ⟨c0, c1, c2, c3, c4, c5, c6, c7, c8, cS, cD, cN, cA, cT, cM, cR, cF, cO, cH, cL⟩ := hC
  obtain ⟨m0, m1, m2, m3, m4, m5, mS, mU, mL, mF, mO, mH, mA, mK⟩ := hM
  obtain ⟨o0, oT, oZ, oY, oD, o9, oN, o28, oB, oX, oE, oF, oA, oH, oU, oV⟩ := hk
  rcases crs v1 (t 0 0) (by omega) with ax | ⟨ax, dx⟩ | ⟨x, hx, rfl⟩
  · (refine b_X10_take_0 (b_X10_lead_0 ?_); simp (disch := omega) only [pk_mul, nI_add, ksub, kdv, kd8, kd64, kd2, kd3, km8, km64, kt8, ke8, ke64, kcl, kin, kle, klt, keq, up_s, up_n, up_u, true_and, and_true, false_implies, true_implies, not_false_eq_true, not_true_eq_false, ax, c0, knl]; refine b_X11_take_73 (b_X11_acts_73 ?_); simp (disch := omega) only [pk_mul, nI_add, ksub, kdv, kd8, kd64, kd2, kd3, km8, km64, kt8, ke8, ke64, kcl, kin, kle, klt, keq, up_s, up_n, up_u, true_and, and_true, false_implies, true_implies, not_false_eq_true, not_true_eq_false, ax, m1, kzl, kcz, knl]; exact hQ _ _ _ f1)
  · (refine b_X10_take_0 (b_X10_lead_0 ?_); simp (disch := omega) only [pk_mul, nI_add, ksub, kdv, kd8, kd64, kd2, kd3, km8, km64, kt8, ke8, ke64, kcl, kin, kle, klt, keq, up_s, up_n, up_u, true_and, and_true, false_implies, true_implies, not_false_eq_true, not_true_eq_false, ax, dx, c0, knl]; refine b_X11_take_73 (b_X11_acts_73 ?_); simp (disch := omega) only [pk_mul, nI_add, ksub, kdv, kd8, kd64, kd2, kd3, km8, km64, kt8, ke8, ke64, kcl, kin, kle, klt, keq, up_s, up_n, up_u, true_and, and_true, false_implies, true_implies, not_false_eq_true, not_true_eq_false, ax, dx, m1, kzl, kcz, knl]; exact hQ _ _ _ f1)
  · have gx : (t 0 0 ≤ x) = False := eq_false (by omega)
    rcases crs v2 (t 0 0) (by omega) with ay | ⟨ay, dy⟩ | ⟨y, hy, rfl⟩
    · (refine b_X10_take_0 (b_X10_lead_0 ?_); simp (disch := omega) only [pk_mul, nI_add, ksub, kdv, kd8, kd64, kd2, kd3, km8, km64, kt8, ke8, ke64, kcl, kin, kle, klt, keq, up_s, up_n, up_u, true_and, and_true, false_implies, true_implies, not_false_eq_true, not_true_eq_false, gx, ay, c0, knl]; refine b_X11_take_73 (b_X11_acts_73 ?_); simp (disch := omega) only [pk_mul, nI_add, ksub, kdv, kd8, kd64, kd2, kd3, km8, km64, kt8, ke8, ke64, kcl, kin, kle, klt, keq, up_s, up_n, up_u, true_and, and_true, false_implies, true_implies, not_false_eq_true, not_true_eq_false, gx, ay, m1, kzl, kcz, knl]; exact hQ _ _ _ f1)
    · (refine b_X10_take_0 (b_X10_lead_0 ?_); simp (disch := omega) only [pk_mul, nI_add, ksub, kdv, kd8, kd64, kd2, kd3, km8, km64, kt8, ke8, ke64, kcl, kin, kle, klt, keq, up_s, up_n, up_u, true_and, and_true, false_implies, true_implies, not_false_eq_true, not_true_eq_false, gx, ay, dy, c0, knl]; refine b_X11_take_73 (b_X11_acts_73 ?_); simp (disch := omega) only [pk_mul, nI_add, ksub, kdv, kd8, kd64, kd2, kd3, km8, km64, kt8, ke8, ke64, kcl, kin, kle, klt, keq, up_s, up_n, up_u, true_and, and_true, false_implies, true_implies, not_false_eq_true, not_true_eq_false, gx, ay, dy, m1, kzl, kcz, knl]; exact hQ _ _ _ f1)
    · have gy : (t 0 0 ≤ y) = False := eq_false (by omega)
      rcases crs v3 (t 0 0) (by omega) with az | ⟨az, dz⟩ | ⟨z, hz, rfl⟩
      · (refine b_X10_take_0 (b_X10_lead_0 ?_); simp (disch := omega) only [pk_mul, nI_add, ksub, kdv, kd8, kd64, kd2, kd3, km8, km64, kt8, ke8, ke64, kcl, kin, kle, klt, keq, up_s, up_n, up_u, true_and, and_true, false_implies, true_implies, not_false_eq_true, not_true_eq_false, gx, gy, az, c0, knl]; refine b_X11_take_73 (b_X11_acts_73 ?_); simp (disch := omega) only [pk_mul, nI_add, ksub, kdv, kd8, kd64, kd2, kd3, km8, km64, kt8, ke8, ke64, kcl, kin, kle, klt, keq, up_s, up_n, up_u, true_and, and_true, false_implies, true_implies, not_false_eq_true, not_true_eq_false, gx, gy, az, m1, kzl, kcz, knl]; exact hQ _ _ _ f1)
      · (refine b_X10_take_0 (b_X10_lead_0 ?_); simp (disch := omega) only [pk_mul, nI_add, ksub, kdv, kd8, kd64, kd2, kd3, km8, km64, kt8, ke8, ke64, kcl, kin, kle, klt, keq, up_s, up_n, up_u, true_and, and_true, false_implies, true_implies, not_false_eq_true, not_true_eq_false, gx, gy, az, dz, c0, knl]; refine b_X11_take_73 (b_X11_acts_73 ?_); simp (disch := omega) only [pk_mul, nI_add, ksub, kdv, kd8, kd64, kd2, kd3, km8, km64, kt8, ke8, ke64, kcl, kin, kle, klt, keq, up_s, up_n, up_u, true_and, and_true, false_implies, true_implies, not_false_eq_true, not_true_eq_false, gx, gy, az, dz, m1, kzl, kcz, knl]; exact hQ _ _ _ f1)
      · have gz : (t 0 0 ≤ z) = False := eq_false (by omega)
        have e1 := cS (8 * x + y) (by omega)
        have e2 := mS (8 * x + y) (by omega)
        have e3 := cS (8 * y + z) (by omega)
        have e4 := mS (8 * y + z) (by omega)
        have e5 := mL (64 * x + 8 * y + z) (by omega)
        have u1 := o9 (8 * x + y) (by omega)
        have u2 := o9 (8 * y + z) (by omega)
        have u3 := (oB (64 * x + 8 * y + z) (by omega)).2
        by_cases h1 : t 1 (8 * x + y) ≤ 0
        · have q1 := eq_true h1
          refine b_X10_take_0 (b_X10_lead_0 ?_)
          simp (disch := omega) only [pk_mul, nI_add, ksub, kdv, kd8, kd64, kd2, kd3, km8, km64, kt8, ke8, ke64, kcl, kin, kle, klt, keq, up_s, up_n, up_u, true_and, and_true, false_implies, true_implies, not_false_eq_true, not_true_eq_false, c0, knl, q1, e1, e3, gx, gy, gz]
          refine b_X11_take_73 (b_X11_acts_73 ?_)
          simp (disch := omega) only [pk_mul, nI_add, ksub, kdv, kd8, kd64, kd2, kd3, km8, km64, kt8, ke8, ke64, kcl, kin, kle, klt, keq, up_s, up_n, up_u, true_and, and_true, false_implies, true_implies, not_false_eq_true, not_true_eq_false, m1, kzl, kcz, knl, q1, e2, e4, gx, gy, gz]
          exact hQ _ _ _ f1
        · have q1 := eq_false h1
          by_cases h2 : t 1 (8 * y + z) ≤ 0
          · have q2 := eq_true h2
            refine b_X10_take_0 (b_X10_lead_0 ?_)
            simp (disch := omega) only [pk_mul, nI_add, ksub, kdv, kd8, kd64, kd2, kd3, km8, km64, kt8, ke8, ke64, kcl, kin, kle, klt, keq, up_s, up_n, up_u, true_and, and_true, false_implies, true_implies, not_false_eq_true, not_true_eq_false, c0, knl, q1, q2, e1, e3, gx, gy, gz]
            refine b_X11_take_73 (b_X11_acts_73 ?_)
            simp (disch := omega) only [pk_mul, nI_add, ksub, kdv, kd8, kd64, kd2, kd3, km8, km64, kt8, ke8, ke64, kcl, kin, kle, klt, keq, up_s, up_n, up_u, true_and, and_true, false_implies, true_implies, not_false_eq_true, not_true_eq_false, m1, kzl, kcz, knl, q1, q2, e2, e4, gx, gy, gz]
            exact hQ _ _ _ f1
          · have q2 := eq_false h2
            have hB := tB_x (t := t) (x := x) (y := y) (z := z) (by omega) (by omega) (by omega) (by omega) (by omega)
            have e6 := cR (64 * x + 8 * y + z) (by omega) hB
            by_cases h3 : t 0 5 = 60
            · have q3 := eq_true h3
              have q4 : (60 ≤ t 0 5) = True := eq_true (by omega)
              refine b_X10_take_0 (b_X10_lead_0 ?_)
              simp (disch := omega) only [pk_mul, nI_add, ksub, kdv, kd8, kd64, kd2, kd3, km8, km64, kt8, ke8, ke64, kcl, kin, kle, klt, keq, up_s, up_n, up_u, true_and, and_true, false_implies, true_implies, not_false_eq_true, not_true_eq_false, c0, knl, q1, q2, e1, e3, q4, c8, k11, k01, gx, gy, gz]
              refine b_X11_take_73 (b_X11_acts_73 ?_)
              simp (disch := omega) only [pk_mul, nI_add, ksub, kdv, kd8, kd64, kd2, kd3, km8, km64, kt8, ke8, ke64, kcl, kin, kle, klt, keq, up_s, up_n, up_u, true_and, and_true, false_implies, true_implies, not_false_eq_true, not_true_eq_false, m1, kzl, kcz, knl, q1, q2, e2, e4, m5, q3, gx, gy, gz]
              exact hQ _ _ _ f1
            · have q3 := eq_false h3
              have q4 : (60 ≤ t 0 5) = False := eq_false (by omega)
              by_cases h4 : t 3 (64 * x + 8 * y + z) = 0
              · have q5 := eq_true h4
                refine b_X10_take_0 (b_X10_lead_0 ?_)
                simp (disch := omega) only [pk_mul, nI_add, ksub, kdv, kd8, kd64, kd2, kd3, km8, km64, kt8, ke8, ke64, kcl, kin, kle, klt, keq, up_s, up_n, up_u, true_and, and_true, false_implies, true_implies, not_false_eq_true, not_true_eq_false, c0, knl, q1, q2, e1, e3, q4, c8, e6, q5, k11, k01, gx, gy, gz]
                refine b_X11_take_73 (b_X11_acts_73 ?_)
                simp (disch := omega) only [pk_mul, nI_add, ksub, kdv, kd8, kd64, kd2, kd3, km8, km64, kt8, ke8, ke64, kcl, kin, kle, klt, keq, up_s, up_n, up_u, true_and, and_true, false_implies, true_implies, not_false_eq_true, not_true_eq_false, m1, kzl, kcz, knl, q1, q2, e2, e4, m5, q3, e5, q5, k11, k01, gx, gy, gz]
                exact hQ _ _ _ f1
              · have q5 := eq_false h4
                refine b_X10_take_0 (b_X10_lead_0 ?_)
                simp (disch := omega) only [pk_mul, nI_add, ksub, kdv, kd8, kd64, kd2, kd3, km8, km64, kt8, ke8, ke64, kcl, kin, kle, klt, keq, up_s, up_n, up_u, true_and, and_true, false_implies, true_implies, not_false_eq_true, not_true_eq_false, c0, knl, q1, q2, e1, e3, q4, c8, e6, q5, kp1, k11, k01, gx, gy, gz]
                refine b_X11_take_73 (b_X11_acts_73 ?_)
                simp (disch := omega) only [pk_mul, nI_add, ksub, kdv, kd8, kd64, kd2, kd3, km8, km64, kt8, ke8, ke64, kcl, kin, kle, klt, keq, up_s, up_n, up_u, true_and, and_true, false_implies, true_implies, not_false_eq_true, not_true_eq_false, m1, kzl, kcz, knl, q1, q2, e2, e4, m5, q3, e5, q5, kp1, k11, k01, gx, gy, gz]
                refine hQ _ _ (ldT t (64 * x + 8 * y + z) 1) (Rel_up hR hm (tok_ld hk2 (by omega) hB (by omega) (by omega)) (CT_ld hC2 (if_pos rfl).symm ?_ ?_ ?_ (fun a h1 h2 h3 => ?_)) (MT_ld hM2 (if_pos rfl).symm ?_ ?_ ?_ (fun a h1 h2 h3 h4 => ?_)) ?_ ?_ (fun a h1 h2 h3 h4 => ?_) (fun k h1 => ?_) (fun k h1 => ?_) (fun k h1 => ?_) (fun k h1 => ?_) (fun k h1 => ?_) (fun k h1 => ?_) (fun k h1 => ?_))
                all_goals (try simp (disch := omega) only [pk_mul, nI_add, ksub, kdv, kd8, kd64, kd2, kd3, km8, km64, kt8, ke8, ke64, kcl, kin, kle, klt, keq, up_s, up_n, up_u, true_and, and_true, false_implies, true_implies, not_false_eq_true, not_true_eq_false])
theorem r_give {B : tw → Nat × Nat × (Nat → Nat)} {e : am_V} {I : Nat → Nat → Int32} {L : Nat → Nat → Int64} {t : tw} {m : Nat} {Q : Int32 → Int32 → (Nat → Nat → Int32) → Prop} {v1 : Int32} {v2 : Int32} {v3 : Int32} (hR : Rel B e t I L m) (hm : m < 1000000) (hQ : ∀ r J t', Rel B e t' J L (m + 1) → Q r r J) : C_X10_give_0 e v1 v2 v3 I L (fun r J => C_X11_give_73 e v1 v2 v3 J L (fun r' K => Q r r' K)) := by
  have f1 : Rel B e t (va_up I 73 (va_up (I 73) 0 (nI 0))) L (m + 1) := Rel_q hR (fr_73 (fr_refl _ _ _) rfl) (frL_r L) (by omega)
  have hk := hR.1
  have hC := hR.2.1
  have hM := hR.2.2.1
  have hk2 := hk
  have hC2 := hC
  have hM2 := hM
  obtain ⟨c0, c1, c2, c3, c4, c5, c6, c7, c8, cS, cD, cN, cA, cT, cM, cR, cF, cO, cH, cL⟩ := hC
  obtain ⟨m0, m1, m2, m3, m4, m5, mS, mU, mL, mF, mO, mH, mA, mK⟩ := hM
  obtain ⟨o0, oT, oZ, oY, oD, o9, oN, o28, oB, oX, oE, oF, oA, oH, oU, oV⟩ := hk
  rcases crs v1 (t 0 0) (by omega) with ax | ⟨ax, dx⟩ | ⟨x, hx, rfl⟩
  · (refine b_X10_give_0 (b_X10_lead_0 ?_); simp (disch := omega) only [pk_mul, nI_add, ksub, kdv, kd8, kd64, kd2, kd3, km8, km64, kt8, ke8, ke64, kcl, kin, kle, klt, keq, up_s, up_n, up_u, true_and, and_true, false_implies, true_implies, not_false_eq_true, not_true_eq_false, ax, c0, knl]; refine b_X11_give_73 (b_X11_acts_73 ?_); simp (disch := omega) only [pk_mul, nI_add, ksub, kdv, kd8, kd64, kd2, kd3, km8, km64, kt8, ke8, ke64, kcl, kin, kle, klt, keq, up_s, up_n, up_u, true_and, and_true, false_implies, true_implies, not_false_eq_true, not_true_eq_false, ax, m1, kzl, kcz, knl]; exact hQ _ _ _ f1)
  · (refine b_X10_give_0 (b_X10_lead_0 ?_); simp (disch := omega) only [pk_mul, nI_add, ksub, kdv, kd8, kd64, kd2, kd3, km8, km64, kt8, ke8, ke64, kcl, kin, kle, klt, keq, up_s, up_n, up_u, true_and, and_true, false_implies, true_implies, not_false_eq_true, not_true_eq_false, ax, dx, c0, knl]; refine b_X11_give_73 (b_X11_acts_73 ?_); simp (disch := omega) only [pk_mul, nI_add, ksub, kdv, kd8, kd64, kd2, kd3, km8, km64, kt8, ke8, ke64, kcl, kin, kle, klt, keq, up_s, up_n, up_u, true_and, and_true, false_implies, true_implies, not_false_eq_true, not_true_eq_false, ax, dx, m1, kzl, kcz, knl]; exact hQ _ _ _ f1)
  · have gx : (t 0 0 ≤ x) = False := eq_false (by omega)
    rcases crs v2 (t 0 0) (by omega) with ay | ⟨ay, dy⟩ | ⟨y, hy, rfl⟩
    · (refine b_X10_give_0 (b_X10_lead_0 ?_); simp (disch := omega) only [pk_mul, nI_add, ksub, kdv, kd8, kd64, kd2, kd3, km8, km64, kt8, ke8, ke64, kcl, kin, kle, klt, keq, up_s, up_n, up_u, true_and, and_true, false_implies, true_implies, not_false_eq_true, not_true_eq_false, gx, ay, c0, knl]; refine b_X11_give_73 (b_X11_acts_73 ?_); simp (disch := omega) only [pk_mul, nI_add, ksub, kdv, kd8, kd64, kd2, kd3, km8, km64, kt8, ke8, ke64, kcl, kin, kle, klt, keq, up_s, up_n, up_u, true_and, and_true, false_implies, true_implies, not_false_eq_true, not_true_eq_false, gx, ay, m1, kzl, kcz, knl]; exact hQ _ _ _ f1)
    · (refine b_X10_give_0 (b_X10_lead_0 ?_); simp (disch := omega) only [pk_mul, nI_add, ksub, kdv, kd8, kd64, kd2, kd3, km8, km64, kt8, ke8, ke64, kcl, kin, kle, klt, keq, up_s, up_n, up_u, true_and, and_true, false_implies, true_implies, not_false_eq_true, not_true_eq_false, gx, ay, dy, c0, knl]; refine b_X11_give_73 (b_X11_acts_73 ?_); simp (disch := omega) only [pk_mul, nI_add, ksub, kdv, kd8, kd64, kd2, kd3, km8, km64, kt8, ke8, ke64, kcl, kin, kle, klt, keq, up_s, up_n, up_u, true_and, and_true, false_implies, true_implies, not_false_eq_true, not_true_eq_false, gx, ay, dy, m1, kzl, kcz, knl]; exact hQ _ _ _ f1)
    · have gy : (t 0 0 ≤ y) = False := eq_false (by omega)
      rcases crs v3 (t 0 0) (by omega) with az | ⟨az, dz⟩ | ⟨z, hz, rfl⟩
      · (refine b_X10_give_0 (b_X10_lead_0 ?_); simp (disch := omega) only [pk_mul, nI_add, ksub, kdv, kd8, kd64, kd2, kd3, km8, km64, kt8, ke8, ke64, kcl, kin, kle, klt, keq, up_s, up_n, up_u, true_and, and_true, false_implies, true_implies, not_false_eq_true, not_true_eq_false, gx, gy, az, c0, knl]; refine b_X11_give_73 (b_X11_acts_73 ?_); simp (disch := omega) only [pk_mul, nI_add, ksub, kdv, kd8, kd64, kd2, kd3, km8, km64, kt8, ke8, ke64, kcl, kin, kle, klt, keq, up_s, up_n, up_u, true_and, and_true, false_implies, true_implies, not_false_eq_true, not_true_eq_false, gx, gy, az, m1, kzl, kcz, knl]; exact hQ _ _ _ f1)
      · (refine b_X10_give_0 (b_X10_lead_0 ?_); simp (disch := omega) only [pk_mul, nI_add, ksub, kdv, kd8, kd64, kd2, kd3, km8, km64, kt8, ke8, ke64, kcl, kin, kle, klt, keq, up_s, up_n, up_u, true_and, and_true, false_implies, true_implies, not_false_eq_true, not_true_eq_false, gx, gy, az, dz, c0, knl]; refine b_X11_give_73 (b_X11_acts_73 ?_); simp (disch := omega) only [pk_mul, nI_add, ksub, kdv, kd8, kd64, kd2, kd3, km8, km64, kt8, ke8, ke64, kcl, kin, kle, klt, keq, up_s, up_n, up_u, true_and, and_true, false_implies, true_implies, not_false_eq_true, not_true_eq_false, gx, gy, az, dz, m1, kzl, kcz, knl]; exact hQ _ _ _ f1)
      · have gz : (t 0 0 ≤ z) = False := eq_false (by omega)
        have e1 := cS (8 * x + y) (by omega)
        have e2 := mS (8 * x + y) (by omega)
        have e3 := cS (8 * y + z) (by omega)
        have e4 := mS (8 * y + z) (by omega)
        have e5 := mL (64 * x + 8 * y + z) (by omega)
        have u1 := o9 (8 * x + y) (by omega)
        have u2 := o9 (8 * y + z) (by omega)
        have u3 := (oB (64 * x + 8 * y + z) (by omega)).2
        by_cases h1 : t 1 (8 * x + y) ≤ 0
        · have q1 := eq_true h1
          refine b_X10_give_0 (b_X10_lead_0 ?_)
          simp (disch := omega) only [pk_mul, nI_add, ksub, kdv, kd8, kd64, kd2, kd3, km8, km64, kt8, ke8, ke64, kcl, kin, kle, klt, keq, up_s, up_n, up_u, true_and, and_true, false_implies, true_implies, not_false_eq_true, not_true_eq_false, c0, knl, q1, e1, e3, gx, gy, gz]
          refine b_X11_give_73 (b_X11_acts_73 ?_)
          simp (disch := omega) only [pk_mul, nI_add, ksub, kdv, kd8, kd64, kd2, kd3, km8, km64, kt8, ke8, ke64, kcl, kin, kle, klt, keq, up_s, up_n, up_u, true_and, and_true, false_implies, true_implies, not_false_eq_true, not_true_eq_false, m1, kzl, kcz, knl, q1, e2, e4, gx, gy, gz]
          exact hQ _ _ _ f1
        · have q1 := eq_false h1
          by_cases h2 : t 1 (8 * y + z) ≤ 0
          · have q2 := eq_true h2
            refine b_X10_give_0 (b_X10_lead_0 ?_)
            simp (disch := omega) only [pk_mul, nI_add, ksub, kdv, kd8, kd64, kd2, kd3, km8, km64, kt8, ke8, ke64, kcl, kin, kle, klt, keq, up_s, up_n, up_u, true_and, and_true, false_implies, true_implies, not_false_eq_true, not_true_eq_false, c0, knl, q1, q2, e1, e3, gx, gy, gz]
            refine b_X11_give_73 (b_X11_acts_73 ?_)
            simp (disch := omega) only [pk_mul, nI_add, ksub, kdv, kd8, kd64, kd2, kd3, km8, km64, kt8, ke8, ke64, kcl, kin, kle, klt, keq, up_s, up_n, up_u, true_and, and_true, false_implies, true_implies, not_false_eq_true, not_true_eq_false, m1, kzl, kcz, knl, q1, q2, e2, e4, gx, gy, gz]
            exact hQ _ _ _ f1
          · have q2 := eq_false h2
            have hB := tB_x (t := t) (x := x) (y := y) (z := z) (by omega) (by omega) (by omega) (by omega) (by omega)
            have e6 := cR (64 * x + 8 * y + z) (by omega) hB
            by_cases h3 : t 0 5 = 60
            · have q3 := eq_true h3
              have q4 : (60 ≤ t 0 5) = True := eq_true (by omega)
              refine b_X10_give_0 (b_X10_lead_0 ?_)
              simp (disch := omega) only [pk_mul, nI_add, ksub, kdv, kd8, kd64, kd2, kd3, km8, km64, kt8, ke8, ke64, kcl, kin, kle, klt, keq, up_s, up_n, up_u, true_and, and_true, false_implies, true_implies, not_false_eq_true, not_true_eq_false, c0, knl, q1, q2, e1, e3, q4, c8, k11, k01, gx, gy, gz]
              refine b_X11_give_73 (b_X11_acts_73 ?_)
              simp (disch := omega) only [pk_mul, nI_add, ksub, kdv, kd8, kd64, kd2, kd3, km8, km64, kt8, ke8, ke64, kcl, kin, kle, klt, keq, up_s, up_n, up_u, true_and, and_true, false_implies, true_implies, not_false_eq_true, not_true_eq_false, m1, kzl, kcz, knl, q1, q2, e2, e4, m5, q3, gx, gy, gz]
              exact hQ _ _ _ f1
            · have q3 := eq_false h3
              have q4 : (60 ≤ t 0 5) = False := eq_false (by omega)
              by_cases h4 : t 3 (64 * x + 8 * y + z) = 9
              · have q5 := eq_true h4
                refine b_X10_give_0 (b_X10_lead_0 ?_)
                simp (disch := omega) only [pk_mul, nI_add, ksub, kdv, kd8, kd64, kd2, kd3, km8, km64, kt8, ke8, ke64, kcl, kin, kle, klt, keq, up_s, up_n, up_u, true_and, and_true, false_implies, true_implies, not_false_eq_true, not_true_eq_false, c0, knl, q1, q2, e1, e3, q4, c8, e6, q5, k11, k01, gx, gy, gz]
                refine b_X11_give_73 (b_X11_acts_73 ?_)
                simp (disch := omega) only [pk_mul, nI_add, ksub, kdv, kd8, kd64, kd2, kd3, km8, km64, kt8, ke8, ke64, kcl, kin, kle, klt, keq, up_s, up_n, up_u, true_and, and_true, false_implies, true_implies, not_false_eq_true, not_true_eq_false, m1, kzl, kcz, knl, q1, q2, e2, e4, m5, q3, e5, q5, k11, k01, gx, gy, gz]
                exact hQ _ _ _ f1
              · have q5 := eq_false h4
                refine b_X10_give_0 (b_X10_lead_0 ?_)
                simp (disch := omega) only [pk_mul, nI_add, ksub, kdv, kd8, kd64, kd2, kd3, km8, km64, kt8, ke8, ke64, kcl, kin, kle, klt, keq, up_s, up_n, up_u, true_and, and_true, false_implies, true_implies, not_false_eq_true, not_true_eq_false, c0, knl, q1, q2, e1, e3, q4, c8, e6, q5, kp1, k11, k01, gx, gy, gz]
                refine b_X11_give_73 (b_X11_acts_73 ?_)
                simp (disch := omega) only [pk_mul, nI_add, ksub, kdv, kd8, kd64, kd2, kd3, km8, km64, kt8, ke8, ke64, kcl, kin, kle, klt, keq, up_s, up_n, up_u, true_and, and_true, false_implies, true_implies, not_false_eq_true, not_true_eq_false, m1, kzl, kcz, knl, q1, q2, e2, e4, m5, q3, e5, q5, kp1, k11, k01, gx, gy, gz]
                refine hQ _ _ (ldT t (64 * x + 8 * y + z) 0) (Rel_up hR hm (tok_ld hk2 (by omega) hB (by omega) (by omega)) (CT_ld hC2 (if_neg (by decide)).symm ?_ ?_ ?_ (fun a h1 h2 h3 => ?_)) (MT_ld hM2 (if_neg (by decide)).symm ?_ ?_ ?_ (fun a h1 h2 h3 h4 => ?_)) ?_ ?_ (fun a h1 h2 h3 h4 => ?_) (fun k h1 => ?_) (fun k h1 => ?_) (fun k h1 => ?_) (fun k h1 => ?_) (fun k h1 => ?_) (fun k h1 => ?_) (fun k h1 => ?_))
                all_goals (try simp (disch := omega) only [pk_mul, nI_add, ksub, kdv, kd8, kd64, kd2, kd3, km8, km64, kt8, ke8, ke64, kcl, kin, kle, klt, keq, up_s, up_n, up_u, true_and, and_true, false_implies, true_implies, not_false_eq_true, not_true_eq_false])
theorem r_undo {B : tw → Nat × Nat × (Nat → Nat)} {e : am_V} {I : Nat → Nat → Int32} {L : Nat → Nat → Int64} {t : tw} {m : Nat} {Q : Int32 → Int32 → (Nat → Nat → Int32) → Prop} (hR : Rel B e t I L m) (hm : m < 1000000) (hQ : ∀ r J t', Rel B e t' J L (m + 1) → Q r r J) : C_X10_undo_0 e I L (fun r J => C_X11_undo_73 e J L (fun r' K => Q r r' K)) := by
  have f1 : Rel B e t (va_up I 73 (va_up (I 73) 0 (nI 0))) L (m + 1) := Rel_q hR (fr_73 (fr_refl _ _ _) rfl) (frL_r L) (by omega)
  have hk := hR.1
  have hC := hR.2.1
  have hM := hR.2.2.1
  have hk2 := hk
  have hC2 := hC
  have hM2 := hM
  obtain ⟨c0, c1, c2, c3, c4, c5, c6, c7, c8, cS, cD, cN, cA, cT, cM, cR, cF, cO, cH, cL⟩ := hC
  obtain ⟨m0, m1, m2, m3, m4, m5, mS, mU, mL, mF, mO, mH, mA, mK⟩ := hM
  obtain ⟨o0, oT, oZ, oY, oD, o9, oN, o28, oB, oX, oE, oF, oA, oH, oU, oV⟩ := hk
  by_cases h0 : t 0 0 ≤ 0
  · have q0 := eq_true h0
    have q00 : (t 0 3 ≤ 0) = True := eq_true (by omega)
    refine b_X10_undo_0 ?_
    simp (disch := omega) only [pk_mul, nI_add, ksub, kdv, kd8, kd64, kd2, kd3, km8, km64, kt8, ke8, ke64, kcl, kin, kle, klt, keq, up_s, up_n, up_u, true_and, and_true, false_implies, true_implies, not_false_eq_true, not_true_eq_false, c0, q0]
    refine b_X11_undo_73 ?_
    simp (disch := omega) only [pk_mul, nI_add, ksub, kdv, kd8, kd64, kd2, kd3, km8, km64, kt8, ke8, ke64, kcl, kin, kle, klt, keq, up_s, up_n, up_u, true_and, and_true, false_implies, true_implies, not_false_eq_true, not_true_eq_false, m0, q00]
    exact hQ _ _ _ f1
  · have q0 := eq_false h0
    have q00 : (t 0 3 ≤ 0) = False := eq_false (by omega)
    by_cases h1 : t 0 5 = 0
    · have q1 := eq_true h1
      refine b_X10_undo_0 ?_
      simp (disch := omega) only [pk_mul, nI_add, ksub, kdv, kd8, kd64, kd2, kd3, km8, km64, kt8, ke8, ke64, kcl, kin, kle, klt, keq, up_s, up_n, up_u, true_and, and_true, false_implies, true_implies, not_false_eq_true, not_true_eq_false, c0, c8, q0, q1]
      refine b_X11_undo_73 ?_
      simp (disch := omega) only [pk_mul, nI_add, ksub, kdv, kd8, kd64, kd2, kd3, km8, km64, kt8, ke8, ke64, kcl, kin, kle, klt, keq, up_s, up_n, up_u, true_and, and_true, false_implies, true_implies, not_false_eq_true, not_true_eq_false, m0, m5, q00, q1]
      exact hQ _ _ _ f1
    · have q1 := eq_false h1
      have q2 : (t 0 5 ≤ 0) = False := eq_false (by omega)
      obtain ⟨u1, u2, u3, u4⟩ := ud_sp hk2 (by omega)
      have e1 := cL (t 0 5 - 1) (by omega)
      have e2 := mA (t 0 5 - 1) (by omega)
      have e3 := mK (t 0 5 - 1) (by omega)
      have e4 := cR _ u1 u2
      have e5 := mL _ u1
      have d8 : t 8 (t 0 5 - 1) ≤ 1 := by omega
      have v1 : (2 * t 7 (t 0 5 - 1) + t 8 (t 0 5 - 1)) / 2 = t 7 (t 0 5 - 1) := by omega
      have v2 : (2 * t 7 (t 0 5 - 1) + t 8 (t 0 5 - 1)) % 2 = t 8 (t 0 5 - 1) := by omega
      have v3 : 2 * t 7 (t 0 5 - 1) + t 8 (t 0 5 - 1) - t 7 (t 0 5 - 1) * 2 = t 8 (t 0 5 - 1) := by omega
      rcases u3 with ⟨d1, h9⟩ | ⟨d1, h9⟩
      · have q3 : (t 8 (t 0 5 - 1) = 1) = True := eq_true d1
        refine b_X10_undo_0 ?_
        simp (disch := omega) only [pk_mul, nI_add, ksub, kdv, kd8, kd64, kd2, kd3, km8, km64, kt8, ke8, ke64, kcl, kin, kle, klt, keq, up_s, up_n, up_u, true_and, and_true, false_implies, true_implies, not_false_eq_true, not_true_eq_false, c0, c8, q0, q1, q2, e1, v1, v2, v3, e4, q3]
        refine b_X11_undo_73 ?_
        simp (disch := omega) only [pk_mul, nI_add, ksub, kdv, kd8, kd64, kd2, kd3, km8, km64, kt8, ke8, ke64, kcl, kin, kle, klt, keq, up_s, up_n, up_u, true_and, and_true, false_implies, true_implies, not_false_eq_true, not_true_eq_false, m0, m5, q00, q1, e2, e3, e5, q3]
        refine hQ _ _ (udT t) (Rel_up hR hm (tok_ud hk2 (by omega)) (CT_ud hC2 (if_pos d1).symm ?_ ?_ (fun a h1 h2 h3 => ?_)) (MT_ud hM2 (if_pos d1).symm ?_ ?_ (fun a h1 h2 h3 h4 => ?_)) ?_ ?_ (fun a h1 h2 h3 h4 => ?_) (fun k h1 => ?_) (fun k h1 => ?_) (fun k h1 => ?_) (fun k h1 => ?_) (fun k h1 => ?_) (fun k h1 => ?_) (fun k h1 => ?_))
        all_goals (try simp (disch := omega) only [pk_mul, nI_add, ksub, kdv, kd8, kd64, kd2, kd3, km8, km64, kt8, ke8, ke64, kcl, kin, kle, klt, keq, up_s, up_n, up_u, true_and, and_true, false_implies, true_implies, not_false_eq_true, not_true_eq_false])
      · have q3 : (t 8 (t 0 5 - 1) = 1) = False := eq_false (by omega)
        refine b_X10_undo_0 ?_
        simp (disch := omega) only [pk_mul, nI_add, ksub, kdv, kd8, kd64, kd2, kd3, km8, km64, kt8, ke8, ke64, kcl, kin, kle, klt, keq, up_s, up_n, up_u, true_and, and_true, false_implies, true_implies, not_false_eq_true, not_true_eq_false, c0, c8, q0, q1, q2, e1, v1, v2, v3, e4, q3, kp1]
        refine b_X11_undo_73 ?_
        simp (disch := omega) only [pk_mul, nI_add, ksub, kdv, kd8, kd64, kd2, kd3, km8, km64, kt8, ke8, ke64, kcl, kin, kle, klt, keq, up_s, up_n, up_u, true_and, and_true, false_implies, true_implies, not_false_eq_true, not_true_eq_false, m0, m5, q00, q1, e2, e3, e5, q3, kp1]
        refine hQ _ _ (udT t) (Rel_up hR hm (tok_ud hk2 (by omega)) (CT_ud hC2 (if_neg (by omega)).symm ?_ ?_ (fun a h1 h2 h3 => ?_)) (MT_ud hM2 (if_neg (by omega)).symm ?_ ?_ (fun a h1 h2 h3 h4 => ?_)) ?_ ?_ (fun a h1 h2 h3 h4 => ?_) (fun k h1 => ?_) (fun k h1 => ?_) (fun k h1 => ?_) (fun k h1 => ?_) (fun k h1 => ?_) (fun k h1 => ?_) (fun k h1 => ?_))
        all_goals (try simp (disch := omega) only [pk_mul, nI_add, ksub, kdv, kd8, kd64, kd2, kd3, km8, km64, kt8, ke8, ke64, kcl, kin, kle, klt, keq, up_s, up_n, up_u, true_and, and_true, false_implies, true_implies, not_false_eq_true, not_true_eq_false])
theorem r_law {B : tw → Nat × Nat × (Nat → Nat)} {e : am_V} {I : Nat → Nat → Int32} {L : Nat → Nat → Int64} {t : tw} {m : Nat} {Q : Int32 → Int32 → (Nat → Nat → Int32) → Prop} {v1 : Int32} {v2 : Int32} {v3 : Int32} {v4 : Int32} (hR : Rel B e t I L m) (hm : m < 1000000) (hQ : ∀ r J t', Rel B e t' J L (m + 1) → Q r r J) : C_X10_law_0 e v1 v2 v3 v4 I L (fun r J => C_X11_law_73 e v1 v2 v3 v4 J L (fun r' K => Q r r' K)) := by
  have f1 : Rel B e t (va_up I 73 (va_up (I 73) 0 (nI 0))) L (m + 1) := Rel_q hR (fr_73 (fr_refl _ _ _) rfl) (frL_r L) (by omega)
  have hk := hR.1
  have hC := hR.2.1
  have hM := hR.2.2.1
  have hk2 := hk
  have hC2 := hC
  have hM2 := hM
  obtain ⟨c0, c1, c2, c3, c4, c5, c6, c7, c8, cS, cD, cN, cA, cT, cM, cR, cF, cO, cH, cL⟩ := hC
  obtain ⟨m0, m1, m2, m3, m4, m5, mS, mU, mL, mF, mO, mH, mA, mK⟩ := hM
  obtain ⟨o0, oT, oZ, oY, oD, o9, oN, o28, oB, oX, oE, oF, oA, oH, oU, oV⟩ := hk
  rcases crs v1 (t 0 0) (by omega) with ax | ⟨ax, dx⟩ | ⟨x, hx, rfl⟩
  · (refine b_X10_law_0 ?_; simp (disch := omega) only [pk_mul, nI_add, ksub, kdv, kd8, kd64, kd2, kd3, km8, km64, kt8, ke8, ke64, kcl, kin, kle, klt, keq, up_s, up_n, up_u, true_and, and_true, false_implies, true_implies, not_false_eq_true, not_true_eq_false, ax, c0, knl]; refine b_X11_law_73 ?_; simp (disch := omega) only [pk_mul, nI_add, ksub, kdv, kd8, kd64, kd2, kd3, km8, km64, kt8, ke8, ke64, kcl, kin, kle, klt, keq, up_s, up_n, up_u, true_and, and_true, false_implies, true_implies, not_false_eq_true, not_true_eq_false, ax, m1, kzl, kcz, knl, kl9]; exact hQ _ _ _ f1)
  · (refine b_X10_law_0 ?_; simp (disch := omega) only [pk_mul, nI_add, ksub, kdv, kd8, kd64, kd2, kd3, km8, km64, kt8, ke8, ke64, kcl, kin, kle, klt, keq, up_s, up_n, up_u, true_and, and_true, false_implies, true_implies, not_false_eq_true, not_true_eq_false, ax, dx, c0, knl]; refine b_X11_law_73 ?_; simp (disch := omega) only [pk_mul, nI_add, ksub, kdv, kd8, kd64, kd2, kd3, km8, km64, kt8, ke8, ke64, kcl, kin, kle, klt, keq, up_s, up_n, up_u, true_and, and_true, false_implies, true_implies, not_false_eq_true, not_true_eq_false, ax, dx, m1, kzl, kcz, knl, kl9]; exact hQ _ _ _ f1)
  · have gx : (t 0 0 ≤ x) = False := eq_false (by omega)
    rcases crs v2 (t 0 0) (by omega) with ay | ⟨ay, dy⟩ | ⟨y, hy, rfl⟩
    · (refine b_X10_law_0 ?_; simp (disch := omega) only [pk_mul, nI_add, ksub, kdv, kd8, kd64, kd2, kd3, km8, km64, kt8, ke8, ke64, kcl, kin, kle, klt, keq, up_s, up_n, up_u, true_and, and_true, false_implies, true_implies, not_false_eq_true, not_true_eq_false, gx, ay, c0, knl]; refine b_X11_law_73 ?_; simp (disch := omega) only [pk_mul, nI_add, ksub, kdv, kd8, kd64, kd2, kd3, km8, km64, kt8, ke8, ke64, kcl, kin, kle, klt, keq, up_s, up_n, up_u, true_and, and_true, false_implies, true_implies, not_false_eq_true, not_true_eq_false, gx, ay, m1, kzl, kcz, knl, kl9]; exact hQ _ _ _ f1)
    · (refine b_X10_law_0 ?_; simp (disch := omega) only [pk_mul, nI_add, ksub, kdv, kd8, kd64, kd2, kd3, km8, km64, kt8, ke8, ke64, kcl, kin, kle, klt, keq, up_s, up_n, up_u, true_and, and_true, false_implies, true_implies, not_false_eq_true, not_true_eq_false, gx, ay, dy, c0, knl]; refine b_X11_law_73 ?_; simp (disch := omega) only [pk_mul, nI_add, ksub, kdv, kd8, kd64, kd2, kd3, km8, km64, kt8, ke8, ke64, kcl, kin, kle, klt, keq, up_s, up_n, up_u, true_and, and_true, false_implies, true_implies, not_false_eq_true, not_true_eq_false, gx, ay, dy, m1, kzl, kcz, knl, kl9]; exact hQ _ _ _ f1)
    · have gy : (t 0 0 ≤ y) = False := eq_false (by omega)
      rcases crs v3 (t 0 0) (by omega) with az | ⟨az, dz⟩ | ⟨z, hz, rfl⟩
      · (refine b_X10_law_0 ?_; simp (disch := omega) only [pk_mul, nI_add, ksub, kdv, kd8, kd64, kd2, kd3, km8, km64, kt8, ke8, ke64, kcl, kin, kle, klt, keq, up_s, up_n, up_u, true_and, and_true, false_implies, true_implies, not_false_eq_true, not_true_eq_false, gx, gy, az, c0, knl]; refine b_X11_law_73 ?_; simp (disch := omega) only [pk_mul, nI_add, ksub, kdv, kd8, kd64, kd2, kd3, km8, km64, kt8, ke8, ke64, kcl, kin, kle, klt, keq, up_s, up_n, up_u, true_and, and_true, false_implies, true_implies, not_false_eq_true, not_true_eq_false, gx, gy, az, m1, kzl, kcz, knl, kl9]; exact hQ _ _ _ f1)
      · (refine b_X10_law_0 ?_; simp (disch := omega) only [pk_mul, nI_add, ksub, kdv, kd8, kd64, kd2, kd3, km8, km64, kt8, ke8, ke64, kcl, kin, kle, klt, keq, up_s, up_n, up_u, true_and, and_true, false_implies, true_implies, not_false_eq_true, not_true_eq_false, gx, gy, az, dz, c0, knl]; refine b_X11_law_73 ?_; simp (disch := omega) only [pk_mul, nI_add, ksub, kdv, kd8, kd64, kd2, kd3, km8, km64, kt8, ke8, ke64, kcl, kin, kle, klt, keq, up_s, up_n, up_u, true_and, and_true, false_implies, true_implies, not_false_eq_true, not_true_eq_false, gx, gy, az, dz, m1, kzl, kcz, knl, kl9]; exact hQ _ _ _ f1)
      · have gz : (t 0 0 ≤ z) = False := eq_false (by omega)
        rcases crl v4 9 (by decide) with aw | ⟨aw, dw⟩ | ⟨w, hw, rfl⟩
        · (refine b_X10_law_0 ?_; simp (disch := omega) only [pk_mul, nI_add, ksub, kdv, kd8, kd64, kd2, kd3, km8, km64, kt8, ke8, ke64, kcl, kin, kle, klt, keq, up_s, up_n, up_u, true_and, and_true, false_implies, true_implies, not_false_eq_true, not_true_eq_false, gx, gy, gz, aw, c0, knl]; refine b_X11_law_73 ?_; simp (disch := omega) only [pk_mul, nI_add, ksub, kdv, kd8, kd64, kd2, kd3, km8, km64, kt8, ke8, ke64, kcl, kin, kle, klt, keq, up_s, up_n, up_u, true_and, and_true, false_implies, true_implies, not_false_eq_true, not_true_eq_false, gx, gy, gz, aw, m1, kzl, kcz, knl, kl9]; exact hQ _ _ _ f1)
        · (refine b_X10_law_0 ?_; simp (disch := omega) only [pk_mul, nI_add, ksub, kdv, kd8, kd64, kd2, kd3, km8, km64, kt8, ke8, ke64, kcl, kin, kle, klt, keq, up_s, up_n, up_u, true_and, and_true, false_implies, true_implies, not_false_eq_true, not_true_eq_false, gx, gy, gz, aw, dw, c0, knl]; refine b_X11_law_73 ?_; simp (disch := omega) only [pk_mul, nI_add, ksub, kdv, kd8, kd64, kd2, kd3, km8, km64, kt8, ke8, ke64, kcl, kin, kle, klt, keq, up_s, up_n, up_u, true_and, and_true, false_implies, true_implies, not_false_eq_true, not_true_eq_false, gx, gy, gz, aw, dw, m1, kzl, kcz, knl, kl9]; exact hQ _ _ _ f1)
        · have gw : (w ≤ 9) = True := eq_true (by omega)
          have e1 := cS (8 * x + y) (by omega)
          have e2 := mS (8 * x + y) (by omega)
          have e3 := cS (8 * y + z) (by omega)
          have e4 := mS (8 * y + z) (by omega)
          have e5 := mL (64 * x + 8 * y + z) (by omega)
          have e7 := mU (64 * x + 8 * y + z) (by omega)
          have u1 := o9 (8 * x + y) (by omega)
          have u2 := o9 (8 * y + z) (by omega)
          have u3 := oB (64 * x + 8 * y + z) (by omega)
          by_cases h1 : t 1 (8 * x + y) ≤ 0
          · have q1 := eq_true h1
            refine b_X10_law_0 ?_
            simp (disch := omega) only [pk_mul, nI_add, ksub, kdv, kd8, kd64, kd2, kd3, km8, km64, kt8, ke8, ke64, kcl, kin, kle, klt, keq, up_s, up_n, up_u, true_and, and_true, false_implies, true_implies, not_false_eq_true, not_true_eq_false, c0, knl, q1, e1, e3, gx, gy, gz, gw]
            refine b_X11_law_73 ?_
            simp (disch := omega) only [pk_mul, nI_add, ksub, kdv, kd8, kd64, kd2, kd3, km8, km64, kt8, ke8, ke64, kcl, kin, kle, klt, keq, up_s, up_n, up_u, true_and, and_true, false_implies, true_implies, not_false_eq_true, not_true_eq_false, m1, kzl, kcz, knl, kl9, q1, e2, e4, gx, gy, gz, gw]
            exact hQ _ _ _ f1
          · have q1 := eq_false h1
            by_cases h2 : t 1 (8 * y + z) ≤ 0
            · have q2 := eq_true h2
              refine b_X10_law_0 ?_
              simp (disch := omega) only [pk_mul, nI_add, ksub, kdv, kd8, kd64, kd2, kd3, km8, km64, kt8, ke8, ke64, kcl, kin, kle, klt, keq, up_s, up_n, up_u, true_and, and_true, false_implies, true_implies, not_false_eq_true, not_true_eq_false, c0, knl, q1, q2, e1, e3, gx, gy, gz, gw]
              refine b_X11_law_73 ?_
              simp (disch := omega) only [pk_mul, nI_add, ksub, kdv, kd8, kd64, kd2, kd3, km8, km64, kt8, ke8, ke64, kcl, kin, kle, klt, keq, up_s, up_n, up_u, true_and, and_true, false_implies, true_implies, not_false_eq_true, not_true_eq_false, m1, kzl, kcz, knl, kl9, q1, q2, e2, e4, gx, gy, gz, gw]
              exact hQ _ _ _ f1
            · have q2 := eq_false h2
              have hB := tB_x (t := t) (x := x) (y := y) (z := z) (by omega) (by omega) (by omega) (by omega) (by omega)
              have e6 := cR (64 * x + 8 * y + z) (by omega) hB
              have e8 := cM (64 * x + 8 * y + z) (by omega) hB
              by_cases h3 : t 0 5 ≤ 0
              · have q3 := eq_true h3
                refine b_X10_law_0 ?_
                simp (disch := omega) only [pk_mul, nI_add, ksub, kdv, kd8, kd64, kd2, kd3, km8, km64, kt8, ke8, ke64, kcl, kin, kle, klt, keq, up_s, up_n, up_u, true_and, and_true, false_implies, true_implies, not_false_eq_true, not_true_eq_false, c0, knl, q1, q2, e1, e3, q3, c8, e8, gx, gy, gz, gw]
                refine b_X11_law_73 ?_
                simp (disch := omega) only [pk_mul, nI_add, ksub, kdv, kd8, kd64, kd2, kd3, km8, km64, kt8, ke8, ke64, kcl, kin, kle, klt, keq, up_s, up_n, up_u, true_and, and_true, false_implies, true_implies, not_false_eq_true, not_true_eq_false, m1, kzl, kcz, knl, kl9, q1, q2, e2, e4, m5, q3, e7, gx, gy, gz, gw]
                refine hQ _ _ (lwT t (64 * x + 8 * y + z) w) (Rel_up hR hm (tok_lw hk2 (by omega) hB (by omega) (by omega)) (CT_lw hC2 ?_ ?_ (fun a h1 h2 h3 h4 => ?_)) (MT_lw hM2 ?_ ?_ (fun a h1 h2 h3 h4 => ?_)) ?_ ?_ (fun a h1 h2 h3 h4 => ?_) (fun k h1 => ?_) (fun k h1 => ?_) (fun k h1 => ?_) (fun k h1 => ?_) (fun k h1 => ?_) (fun k h1 => ?_) (fun k h1 => ?_))
                all_goals (try simp (disch := omega) only [pk_mul, nI_add, ksub, kdv, kd8, kd64, kd2, kd3, km8, km64, kt8, ke8, ke64, kcl, kin, kle, klt, keq, up_s, up_n, up_u, true_and, and_true, false_implies, true_implies, not_false_eq_true, not_true_eq_false])
              · have q3 := eq_false h3
                refine b_X10_law_0 ?_
                simp (disch := omega) only [pk_mul, nI_add, ksub, kdv, kd8, kd64, kd2, kd3, km8, km64, kt8, ke8, ke64, kcl, kin, kle, klt, keq, up_s, up_n, up_u, true_and, and_true, false_implies, true_implies, not_false_eq_true, not_true_eq_false, c0, knl, q1, q2, e1, e3, q3, c8, e8, gx, gy, gz, gw]
                refine b_X11_law_73 ?_
                simp (disch := omega) only [pk_mul, nI_add, ksub, kdv, kd8, kd64, kd2, kd3, km8, km64, kt8, ke8, ke64, kcl, kin, kle, klt, keq, up_s, up_n, up_u, true_and, and_true, false_implies, true_implies, not_false_eq_true, not_true_eq_false, m1, kzl, kcz, knl, kl9, q1, q2, e2, e4, m5, q3, e7, gx, gy, gz, gw]
                exact hQ _ _ _ f1
theorem r_send {B : tw → Nat × Nat × (Nat → Nat)} {e : am_V} {I : Nat → Nat → Int32} {L : Nat → Nat → Int64} {t : tw} {m : Nat} {Q : Int32 → Int32 → (Nat → Nat → Int32) → Prop} {v1 : Int32} {v2 : Int32} {v3 : Int32} {v4 : Int32} (hR : Rel B e t I L m) (hm : m < 1000000) (hQ : ∀ r J t', Rel B e t' J L (m + 1) → Q r r J) : C_X10_send_0 e v1 v2 v3 v4 I L (fun r J => C_X11_send_73 e v1 v2 v3 v4 J L (fun r' K => Q r r' K)) := by
  have f1 : Rel B e t (va_up I 73 (va_up (I 73) 0 (nI 0))) L (m + 1) := Rel_q hR (fr_73 (fr_refl _ _ _) rfl) (frL_r L) (by omega)
  have hk := hR.1
  have hC := hR.2.1
  have hM := hR.2.2.1
  have hk2 := hk
  have hC2 := hC
  have hM2 := hM
  obtain ⟨c0, c1, c2, c3, c4, c5, c6, c7, c8, cS, cD, cN, cA, cT, cM, cR, cF, cO, cH, cL⟩ := hC
  obtain ⟨m0, m1, m2, m3, m4, m5, mS, mU, mL, mF, mO, mH, mA, mK⟩ := hM
  obtain ⟨o0, oT, oZ, oY, oD, o9, oN, o28, oB, oX, oE, oF, oA, oH, oU, oV⟩ := hk
  rcases crs v1 (t 0 4) (by omega) with ax | ⟨ax, dx⟩ | ⟨x, hx, rfl⟩
  · (refine b_X10_send_0 ?_; simp (disch := omega) only [pk_mul, nI_add, ksub, kdv, kd8, kd64, kd2, kd3, km8, km64, kt8, ke8, ke64, kcl, kin, kle, klt, keq, up_s, up_n, up_u, true_and, and_true, false_implies, true_implies, not_false_eq_true, not_true_eq_false, ax, c0, knl, c7]; refine b_X11_send_73 ?_; simp (disch := omega) only [pk_mul, nI_add, ksub, kdv, kd8, kd64, kd2, kd3, km8, km64, kt8, ke8, ke64, kcl, kin, kle, klt, keq, up_s, up_n, up_u, true_and, and_true, false_implies, true_implies, not_false_eq_true, not_true_eq_false, ax, m1, kzl, kcz, knl, m4, kcz1, kcz3, kl23]; exact hQ _ _ _ f1)
  · (refine b_X10_send_0 ?_; simp (disch := omega) only [pk_mul, nI_add, ksub, kdv, kd8, kd64, kd2, kd3, km8, km64, kt8, ke8, ke64, kcl, kin, kle, klt, keq, up_s, up_n, up_u, true_and, and_true, false_implies, true_implies, not_false_eq_true, not_true_eq_false, ax, dx, c0, knl, c7]; refine b_X11_send_73 ?_; simp (disch := omega) only [pk_mul, nI_add, ksub, kdv, kd8, kd64, kd2, kd3, km8, km64, kt8, ke8, ke64, kcl, kin, kle, klt, keq, up_s, up_n, up_u, true_and, and_true, false_implies, true_implies, not_false_eq_true, not_true_eq_false, ax, dx, m1, kzl, kcz, knl, m4, kcz1, kcz3, kl23]; exact hQ _ _ _ f1)
  · have gx : (t 0 4 ≤ x) = False := eq_false (by omega)
    rcases crs v2 (t 0 0) (by omega) with ay | ⟨ay, dy⟩ | ⟨y, hy, rfl⟩
    · (refine b_X10_send_0 ?_; simp (disch := omega) only [pk_mul, nI_add, ksub, kdv, kd8, kd64, kd2, kd3, km8, km64, kt8, ke8, ke64, kcl, kin, kle, klt, keq, up_s, up_n, up_u, true_and, and_true, false_implies, true_implies, not_false_eq_true, not_true_eq_false, gx, ay, c0, knl, c7]; refine b_X11_send_73 ?_; simp (disch := omega) only [pk_mul, nI_add, ksub, kdv, kd8, kd64, kd2, kd3, km8, km64, kt8, ke8, ke64, kcl, kin, kle, klt, keq, up_s, up_n, up_u, true_and, and_true, false_implies, true_implies, not_false_eq_true, not_true_eq_false, gx, ay, m1, kzl, kcz, knl, m4, kcz1, kcz3, kl23]; exact hQ _ _ _ f1)
    · (refine b_X10_send_0 ?_; simp (disch := omega) only [pk_mul, nI_add, ksub, kdv, kd8, kd64, kd2, kd3, km8, km64, kt8, ke8, ke64, kcl, kin, kle, klt, keq, up_s, up_n, up_u, true_and, and_true, false_implies, true_implies, not_false_eq_true, not_true_eq_false, gx, ay, dy, c0, knl, c7]; refine b_X11_send_73 ?_; simp (disch := omega) only [pk_mul, nI_add, ksub, kdv, kd8, kd64, kd2, kd3, km8, km64, kt8, ke8, ke64, kcl, kin, kle, klt, keq, up_s, up_n, up_u, true_and, and_true, false_implies, true_implies, not_false_eq_true, not_true_eq_false, gx, ay, dy, m1, kzl, kcz, knl, m4, kcz1, kcz3, kl23]; exact hQ _ _ _ f1)
    · have gy : (t 0 0 ≤ y) = False := eq_false (by omega)
      rcases crs v3 (t 0 0) (by omega) with az | ⟨az, dz⟩ | ⟨z, hz, rfl⟩
      · (refine b_X10_send_0 ?_; simp (disch := omega) only [pk_mul, nI_add, ksub, kdv, kd8, kd64, kd2, kd3, km8, km64, kt8, ke8, ke64, kcl, kin, kle, klt, keq, up_s, up_n, up_u, true_and, and_true, false_implies, true_implies, not_false_eq_true, not_true_eq_false, gx, gy, az, c0, knl, c7]; refine b_X11_send_73 ?_; simp (disch := omega) only [pk_mul, nI_add, ksub, kdv, kd8, kd64, kd2, kd3, km8, km64, kt8, ke8, ke64, kcl, kin, kle, klt, keq, up_s, up_n, up_u, true_and, and_true, false_implies, true_implies, not_false_eq_true, not_true_eq_false, gx, gy, az, m1, kzl, kcz, knl, m4, kcz1, kcz3, kl23]; exact hQ _ _ _ f1)
      · (refine b_X10_send_0 ?_; simp (disch := omega) only [pk_mul, nI_add, ksub, kdv, kd8, kd64, kd2, kd3, km8, km64, kt8, ke8, ke64, kcl, kin, kle, klt, keq, up_s, up_n, up_u, true_and, and_true, false_implies, true_implies, not_false_eq_true, not_true_eq_false, gx, gy, az, dz, c0, knl, c7]; refine b_X11_send_73 ?_; simp (disch := omega) only [pk_mul, nI_add, ksub, kdv, kd8, kd64, kd2, kd3, km8, km64, kt8, ke8, ke64, kcl, kin, kle, klt, keq, up_s, up_n, up_u, true_and, and_true, false_implies, true_implies, not_false_eq_true, not_true_eq_false, gx, gy, az, dz, m1, kzl, kcz, knl, m4, kcz1, kcz3, kl23]; exact hQ _ _ _ f1)
      · have gz : (t 0 0 ≤ z) = False := eq_false (by omega)
        by_cases h1 : y = z
        · have q1 := eq_true h1
          refine b_X10_send_0 ?_
          simp (disch := omega) only [pk_mul, nI_add, ksub, kdv, kd8, kd64, kd2, kd3, km8, km64, kt8, ke8, ke64, kcl, kin, kle, klt, keq, up_s, up_n, up_u, true_and, and_true, false_implies, true_implies, not_false_eq_true, not_true_eq_false, c0, knl, c7, q1, gx, gy, gz]
          refine b_X11_send_73 ?_
          simp (disch := omega) only [pk_mul, nI_add, ksub, kdv, kd8, kd64, kd2, kd3, km8, km64, kt8, ke8, ke64, kcl, kin, kle, klt, keq, up_s, up_n, up_u, true_and, and_true, false_implies, true_implies, not_false_eq_true, not_true_eq_false, m1, kzl, kcz, knl, m4, kcz1, kcz3, kl23, q1, gx, gy, gz]
          exact hQ _ _ _ f1
        · have q1 := eq_false h1
          rcases crl v4 23 (by decide) with aw | ⟨aw, dw⟩ | ⟨w, hw, rfl⟩
          · (refine b_X10_send_0 ?_; simp (disch := omega) only [pk_mul, nI_add, ksub, kdv, kd8, kd64, kd2, kd3, km8, km64, kt8, ke8, ke64, kcl, kin, kle, klt, keq, up_s, up_n, up_u, true_and, and_true, false_implies, true_implies, not_false_eq_true, not_true_eq_false, gx, gy, gz, q1, aw, c0, knl, c7]; refine b_X11_send_73 ?_; simp (disch := omega) only [pk_mul, nI_add, ksub, kdv, kd8, kd64, kd2, kd3, km8, km64, kt8, ke8, ke64, kcl, kin, kle, klt, keq, up_s, up_n, up_u, true_and, and_true, false_implies, true_implies, not_false_eq_true, not_true_eq_false, gx, gy, gz, q1, aw, m1, kzl, kcz, knl, m4, kcz1, kcz3, kl23]; exact hQ _ _ _ f1)
          · have dv : ¬ v4 < nI 24 := by
              rw [Int32.lt_iff_toInt_lt]
              rw [Int32.le_iff_toInt_le] at dw
              have h5 : (nI 23).toInt = 23 := rfl
              have h6 : (nI 24).toInt = 24 := rfl
              omega
            (refine b_X10_send_0 ?_; simp (disch := omega) only [pk_mul, nI_add, ksub, kdv, kd8, kd64, kd2, kd3, km8, km64, kt8, ke8, ke64, kcl, kin, kle, klt, keq, up_s, up_n, up_u, true_and, and_true, false_implies, true_implies, not_false_eq_true, not_true_eq_false, gx, gy, gz, q1, aw, dw, dv, c0, knl, c7]; refine b_X11_send_73 ?_; simp (disch := omega) only [pk_mul, nI_add, ksub, kdv, kd8, kd64, kd2, kd3, km8, km64, kt8, ke8, ke64, kcl, kin, kle, klt, keq, up_s, up_n, up_u, true_and, and_true, false_implies, true_implies, not_false_eq_true, not_true_eq_false, gx, gy, gz, q1, aw, dw, dv, m1, kzl, kcz, knl, m4, kcz1, kcz3, kl23]; exact hQ _ _ _ f1)
          · have gw : (w ≤ 23) = True := eq_true (by omega)
            have gw2 : (w < 24) = True := eq_true (by omega)
            have e1 := cF x (by omega)
            have e2 := cO x (by omega)
            have e3 := cH x (by omega)
            have e4 := mF x (by omega)
            have e5 := mO x (by omega)
            have e6 := mH x (by omega)
            have u1 := oF x (by omega)
            refine b_X10_send_0 ?_
            simp (disch := omega) only [pk_mul, nI_add, ksub, kdv, kd8, kd64, kd2, kd3, km8, km64, kt8, ke8, ke64, kcl, kin, kle, klt, keq, up_s, up_n, up_u, true_and, and_true, false_implies, true_implies, not_false_eq_true, not_true_eq_false, c0, knl, c7, q1, gw2, e1, e2, e3, gx, gy, gz]
            refine b_X11_send_73 ?_
            simp (disch := omega) only [pk_mul, nI_add, ksub, kdv, kd8, kd64, kd2, kd3, km8, km64, kt8, ke8, ke64, kcl, kin, kle, klt, keq, up_s, up_n, up_u, true_and, and_true, false_implies, true_implies, not_false_eq_true, not_true_eq_false, m1, kzl, kcz, knl, m4, kcz1, kcz3, kl23, q1, gw, e4, e5, e6, gx, gy, gz]
            refine hQ _ _ (sdT t x y z w) (Rel_up hR hm (tok_sd hk2 (by omega) (by omega) (by omega) h1 (by omega)) (CT_sd hC2 ?_ ?_ ?_ (fun a h1 h2 => ?_) ?_) (MT_sd hM2 ?_ (fun a h1 h2 h3 => ?_)) ?_ ?_ (fun a h1 h2 h3 h4 => ?_) (fun k h1 => ?_) (fun k h1 => ?_) (fun k h1 => ?_) (fun k h1 => ?_) (fun k h1 => ?_) (fun k h1 => ?_) (fun k h1 => ?_))
            all_goals (try simp (disch := omega) only [pk_mul, nI_add, ksub, kdv, kd8, kd64, kd2, kd3, km8, km64, kt8, ke8, ke64, kcl, kin, kle, klt, keq, up_s, up_n, up_u, true_and, and_true, false_implies, true_implies, not_false_eq_true, not_true_eq_false])
