/-! build -/
theorem m_build {e : am_V} {J : Nat → Nat → Int32} {L : Nat → Nat → Int64} {t : tw} {x y n : Nat} {Q : Int32 → (Nat → Nat → Int32) → Prop} (hM : MT t J) (hk : tok t) (hx : x < t 0 0) (hy : y < t 0 0) (hxy : x ≠ y) (hn : n ≤ 9) (ha : t 0 5 = 0) (hz : t 1 (8 * x + y) = 0 → 0 < n) (hr : t 1 (8 * x + y) = 0 → 0 < n → (ar t).length / 2 < 14) (hQ : ∀ K, MT (layT t x y n) K → (∀ a, a ≠ 73 → a ≠ 81 → a ≠ 82 → a ≠ 83 → K a = J a) → K 73 = va_up (J 73) 0 (nI 0) → (∀ i, 64 ≤ i → K 81 i = J 81 i) → (∀ i, 512 ≤ i → K 82 i = J 82 i) → (∀ i, 512 ≤ i → K 83 i = J 83 i) → Q (nI (t 1 (8 * x + y))) K) : C_X11_build_73 e (nI x) (nI y) (nI n) J L Q := by
  have hM2 := hM
  have hk2 := hk
  obtain ⟨m0, m1, m2, m3, m4, m5, mS, mU, mL, mF, mO, mH, mA, mK⟩ := hM
  obtain ⟨o0, oT, oZ, oY, oD, o9, oN, o28, oB, oX, oE, oF, oA, oH, oU, oV⟩ := hk
  have gx : (t 0 0 ≤ x) = False := eq_false (by omega)
  have gy : (t 0 0 ≤ y) = False := eq_false (by omega)
  have gn : (n ≤ 9) = True := eq_true hn
  have q1 : (x = y) = False := eq_false hxy
  have q5 : (0 < t 0 5) = False := eq_false (by omega)
  have e2 := mS (8 * x + y) (by omega)
  have u1 := o9 (8 * x + y) (by omega)
  have hlay : ∀ Q2 : (Nat → Nat → Int32) → Prop, (∀ K, Q (nI (t 1 (8 * x + y))) K → Q2 K) → C_X11_lays_73 e (nI 0) (nI x) (nI y) (nI n) (va_up J 73 (va_up (J 73) 0 (nI 0))) L Q2 := by
    intro Q2 h2
    have M0 := MT_0 hM2
    refine c_layW (t := t) (w := 0) (by omega) hk2 (by omega) (by omega) hxy hn M0.2.2.1 M0.2.2.2.1 (fun k hk => by rw [Nat.mul_zero, Nat.zero_add]; exact mS k hk) (fun k hk => by rw [Nat.mul_zero, Nat.zero_add]; exact mU k hk) (fun k hk => by rw [Nat.mul_zero, Nat.zero_add]; exact mL k hk) (fun K k1 k2 k3 k4 k5 k6 => h2 K (hQ K ?_ (fun a n1 n2 n3 n4 => ?_) ?_ (fun i hi => ?_) (fun i hi => ?_) (fun i hi => ?_)))
    · have g : ∀ a, a ≠ 73 → a ≠ 81 → a ≠ 82 → a ≠ 83 → K a = J a := fun a n1 n2 n3 n4 => by rw [k1 a n2 n3 n4, up_n n1]
      refine ⟨by rw [g 79 (by decide) (by decide) (by decide) (by decide)]; exact m0, by rw [g 80 (by decide) (by decide) (by decide) (by decide)]; exact m1, by rw [g 80 (by decide) (by decide) (by decide) (by decide)]; exact m2, by rw [g 80 (by decide) (by decide) (by decide) (by decide)]; exact m3, by rw [g 80 (by decide) (by decide) (by decide) (by decide)]; exact m4, by rw [g 80 (by decide) (by decide) (by decide) (by decide)]; exact m5, fun k hk => ?_, fun k hk => ?_, fun k hk => ?_, fun j hj => ?_, fun j hj => ?_, fun j hj => ?_, fun i hi => ?_, fun i hi => ?_⟩
      · have := k4 k hk; rw [Nat.mul_zero, Nat.zero_add] at this; exact this
      · have := k5 k hk; rw [Nat.mul_zero, Nat.zero_add] at this; exact this
      · have := k6 k hk; rw [Nat.mul_zero, Nat.zero_add] at this; exact this
      · rw [g 84 (by decide) (by decide) (by decide) (by decide)]; exact mF j hj
      · rw [g 84 (by decide) (by decide) (by decide) (by decide)]; exact mO j hj
      · rw [g 84 (by decide) (by decide) (by decide) (by decide)]; exact mH j hj
      · rw [g 85 (by decide) (by decide) (by decide) (by decide)]; exact mA i hi
      · rw [g 85 (by decide) (by decide) (by decide) (by decide)]; exact mK i hi
    · rw [k1 a n2 n3 n4, up_n n1]
    · rw [k1 73 (by decide) (by decide) (by decide), up_s]
    · rw [k2 i (by omega)]; rfl
    · rw [(k3 i (by omega)).1]; rfl
    · rw [(k3 i (by omega)).2]; rfl
  refine b_X11_build_73 ?_
  by_cases h0 : t 1 (8 * x + y) = 0
  · have hnp := hz h0
    have q2 := eq_true h0
    have q3 : (n ≤ 0) = False := eq_false (by omega)
    have q4 : (0 < t 1 (8 * x + y)) = False := eq_false (by omega)
    simp (disch := omega) only [pk_mul, nI_add, ksub, kdv, kd8, kd64, kd2, kd3, km8, km64, kt8, ke8, ke64, kcl, kin, kle, klt, keq, up_s, up_n, up_u, true_and, and_true, false_implies, true_implies, not_false_eq_true, not_true_eq_false, m1, kzl, kcz, knl, kl9, q1, q2, q3, e2, m5, q5, gx, gy, gn]
    refine c_streetsW (t := t) (w := 0) (by omega) (fun k hk => by rw [Nat.mul_zero, Nat.zero_add]; exact mS k hk) o9 ?_
    have h14 := hr h0 hnp
    rw [cn_fl] at h14
    have q6 : (cn (arp t) 64 / 2 = 14) = False := eq_false (by omega)
    simp (disch := omega) only [pk_mul, nI_add, ksub, kdv, kd8, kd64, kd2, kd3, km8, km64, kt8, ke8, ke64, kcl, kin, kle, klt, keq, up_s, up_n, up_u, true_and, and_true, false_implies, true_implies, not_false_eq_true, not_true_eq_false, q6, q4]
    exact hlay _ (fun K h => h)
  · have q2 := eq_false h0
    have q4 : (0 < t 1 (8 * x + y)) = True := eq_true (by omega)
    simp (disch := omega) only [pk_mul, nI_add, ksub, kdv, kd8, kd64, kd2, kd3, km8, km64, kt8, ke8, ke64, kcl, kin, kle, klt, keq, up_s, up_n, up_u, true_and, and_true, false_implies, true_implies, not_false_eq_true, not_true_eq_false, m1, kzl, kcz, knl, kl9, q1, q2, q4, e2, m5, q5, gx, gy, gn]
    exact hlay _ (fun K h => h)
theorem r_build {B : tw → Nat × Nat × (Nat → Nat)} {e : am_V} {I : Nat → Nat → Int32} {L : Nat → Nat → Int64} {t : tw} {m : Nat} {Q : Int32 → Int32 → (Nat → Nat → Int32) → Prop} {v1 : Int32} {v2 : Int32} {v3 : Int32} (hR : Rel B e t I L m) (hm : m < 1000000) (hQ : ∀ r J t', Rel B e t' J L (m + 1) → Q r r J) : C_X10_build_0 e v1 v2 v3 I L (fun r J => C_X11_build_73 e v1 v2 v3 J L (fun r' K => Q r r' K)) := by
  have f1 : Rel B e t (va_up I 73 (va_up (I 73) 0 (nI 0))) L (m + 1) := Rel_q hR (fr_73 (fr_refl _ _ _) rfl) (frL_r L) (by omega)
  have hk := hR.1
  have hC := hR.2.1
  have hM := hR.2.2.1
  have hk2 := hk
  have hC2 := hC
  have hM2 := hM
  obtain ⟨c0, c1, c2, c3, c4, c5, c6, c7, c8, cS, cD, cN, cA, cT, cM, cR, cF, cO, cH, cL⟩ := hC
  obtain ⟨m0, m1, m2, m3, m4, m5, mS, mU, mL, mF, mO, mH, mA, mK⟩ := hM
  obtain ⟨o0, oT, oZ, oY, oD, o9, oN, o28, oB, oX, oE, oF, oA, oH, oU, oV⟩ := hk
  rcases crs v1 (t 0 0) (by omega) with ax | ⟨ax, dx⟩ | ⟨x, hx, rfl⟩
  · (refine b_X10_build_0 ?_; simp (disch := omega) only [pk_mul, nI_add, ksub, kdv, kd8, kd64, kd2, kd3, km8, km64, kt8, ke8, ke64, kcl, kin, kle, klt, keq, up_s, up_n, up_u, true_and, and_true, false_implies, true_implies, not_false_eq_true, not_true_eq_false, ax, c0, knl]; refine b_X11_build_73 ?_; simp (disch := omega) only [pk_mul, nI_add, ksub, kdv, kd8, kd64, kd2, kd3, km8, km64, kt8, ke8, ke64, kcl, kin, kle, klt, keq, up_s, up_n, up_u, true_and, and_true, false_implies, true_implies, not_false_eq_true, not_true_eq_false, ax, m1, kzl, kcz, knl, kl9]; exact hQ _ _ _ f1)
  · (refine b_X10_build_0 ?_; simp (disch := omega) only [pk_mul, nI_add, ksub, kdv, kd8, kd64, kd2, kd3, km8, km64, kt8, ke8, ke64, kcl, kin, kle, klt, keq, up_s, up_n, up_u, true_and, and_true, false_implies, true_implies, not_false_eq_true, not_true_eq_false, ax, dx, c0, knl]; refine b_X11_build_73 ?_; simp (disch := omega) only [pk_mul, nI_add, ksub, kdv, kd8, kd64, kd2, kd3, km8, km64, kt8, ke8, ke64, kcl, kin, kle, klt, keq, up_s, up_n, up_u, true_and, and_true, false_implies, true_implies, not_false_eq_true, not_true_eq_false, ax, dx, m1, kzl, kcz, knl, kl9]; exact hQ _ _ _ f1)
  · have gx : (t 0 0 ≤ x) = False := eq_false (by omega)
    rcases crs v2 (t 0 0) (by omega) with ay | ⟨ay, dy⟩ | ⟨y, hy, rfl⟩
    · (refine b_X10_build_0 ?_; simp (disch := omega) only [pk_mul, nI_add, ksub, kdv, kd8, kd64, kd2, kd3, km8, km64, kt8, ke8, ke64, kcl, kin, kle, klt, keq, up_s, up_n, up_u, true_and, and_true, false_implies, true_implies, not_false_eq_true, not_true_eq_false, gx, ay, c0, knl]; refine b_X11_build_73 ?_; simp (disch := omega) only [pk_mul, nI_add, ksub, kdv, kd8, kd64, kd2, kd3, km8, km64, kt8, ke8, ke64, kcl, kin, kle, klt, keq, up_s, up_n, up_u, true_and, and_true, false_implies, true_implies, not_false_eq_true, not_true_eq_false, gx, ay, m1, kzl, kcz, knl, kl9]; exact hQ _ _ _ f1)
    · (refine b_X10_build_0 ?_; simp (disch := omega) only [pk_mul, nI_add, ksub, kdv, kd8, kd64, kd2, kd3, km8, km64, kt8, ke8, ke64, kcl, kin, kle, klt, keq, up_s, up_n, up_u, true_and, and_true, false_implies, true_implies, not_false_eq_true, not_true_eq_false, gx, ay, dy, c0, knl]; refine b_X11_build_73 ?_; simp (disch := omega) only [pk_mul, nI_add, ksub, kdv, kd8, kd64, kd2, kd3, km8, km64, kt8, ke8, ke64, kcl, kin, kle, klt, keq, up_s, up_n, up_u, true_and, and_true, false_implies, true_implies, not_false_eq_true, not_true_eq_false, gx, ay, dy, m1, kzl, kcz, knl, kl9]; exact hQ _ _ _ f1)
    · have gy : (t 0 0 ≤ y) = False := eq_false (by omega)
      by_cases hxy : x = y
      · have q1 : (x = y) = True := eq_true hxy
        (refine b_X10_build_0 ?_; simp (disch := omega) only [pk_mul, nI_add, ksub, kdv, kd8, kd64, kd2, kd3, km8, km64, kt8, ke8, ke64, kcl, kin, kle, klt, keq, up_s, up_n, up_u, true_and, and_true, false_implies, true_implies, not_false_eq_true, not_true_eq_false, gx, gy, q1, c0, knl]; refine b_X11_build_73 ?_; simp (disch := omega) only [pk_mul, nI_add, ksub, kdv, kd8, kd64, kd2, kd3, km8, km64, kt8, ke8, ke64, kcl, kin, kle, klt, keq, up_s, up_n, up_u, true_and, and_true, false_implies, true_implies, not_false_eq_true, not_true_eq_false, gx, gy, q1, m1, kzl, kcz, knl, kl9]; exact hQ _ _ _ f1)
      · have q1 : (x = y) = False := eq_false hxy
        rcases crl v3 9 (by decide) with aw | ⟨aw, dw⟩ | ⟨n, hn, rfl⟩
        · (refine b_X10_build_0 ?_; simp (disch := omega) only [pk_mul, nI_add, ksub, kdv, kd8, kd64, kd2, kd3, km8, km64, kt8, ke8, ke64, kcl, kin, kle, klt, keq, up_s, up_n, up_u, true_and, and_true, false_implies, true_implies, not_false_eq_true, not_true_eq_false, gx, gy, q1, aw, c0, knl]; refine b_X11_build_73 ?_; simp (disch := omega) only [pk_mul, nI_add, ksub, kdv, kd8, kd64, kd2, kd3, km8, km64, kt8, ke8, ke64, kcl, kin, kle, klt, keq, up_s, up_n, up_u, true_and, and_true, false_implies, true_implies, not_false_eq_true, not_true_eq_false, gx, gy, q1, aw, m1, kzl, kcz, knl, kl9]; exact hQ _ _ _ f1)
        · (refine b_X10_build_0 ?_; simp (disch := omega) only [pk_mul, nI_add, ksub, kdv, kd8, kd64, kd2, kd3, km8, km64, kt8, ke8, ke64, kcl, kin, kle, klt, keq, up_s, up_n, up_u, true_and, and_true, false_implies, true_implies, not_false_eq_true, not_true_eq_false, gx, gy, q1, aw, dw, c0, knl]; refine b_X11_build_73 ?_; simp (disch := omega) only [pk_mul, nI_add, ksub, kdv, kd8, kd64, kd2, kd3, km8, km64, kt8, ke8, ke64, kcl, kin, kle, klt, keq, up_s, up_n, up_u, true_and, and_true, false_implies, true_implies, not_false_eq_true, not_true_eq_false, gx, gy, q1, aw, dw, m1, kzl, kcz, knl, kl9]; exact hQ _ _ _ f1)
        · have gn : (n ≤ 9) = True := eq_true (by omega)
          have e1 := cS (8 * x + y) (by omega)
          have e2 := mS (8 * x + y) (by omega)
          have u1 := o9 (8 * x + y) (by omega)
          have hlb : (ar t).length ≤ 64 := by rw [cn_fl]; exact cn_n _ _
          -- what follows a street laid and the lists laid anew
          have hend : ∀ t' I2, tok t' → NLb 3 t' I2 → (∀ a, (a < 3 ∨ 14 < a) → I2 a = I a) → (∀ J, CT t' J → (∀ a, a ≠ 0 → (a < 3 ∨ 14 < a) → J a = I a) → J 0 = va_up (I 0) 12 (I 0 12 + nI 1) → C_X11_build_73 e (nI x) (nI y) (nI n) J L (fun r' K => Q (nI (t 1 (8 * x + y))) r' K)) → C_X7_settle_3 e I2 L (fun I5 => C_X11_build_73 e (nI x) (nI y) (nI n) (va_up I5 0 (va_up (I5 0) 12 (I5 0 12 + nI 1))) L (fun r' K => Q (nI (t 1 (8 * x + y))) r' K)) := by
            intro t' I2 ht hN hfr hJ
            refine c_setN_3 hN ht.2.2.2.2.2.1 (fun I5 f hC5 => ?_)
            have g : ∀ a, (a < 3 ∨ 14 < a) → I5 a = I a := fun a ha => (f.1 a (by omega) (by omega) (by omega) (by omega) (by omega)).trans (hfr a ha)
            refine hJ _ (CTb_c (b := 3) (fun a h1 h2 => up_n (by omega)) hC5) (fun a ha hb => by rw [up_n ha]; exact g a hb) ?_
            rw [up_s, g 0 (by omega)]
          have hlay : t 0 5 ≤ 0 → (t 1 (8 * x + y) = 0 → 0 < n) → (t 1 (8 * x + y) = 0 → 0 < n → (ar t).length / 2 < 14) → C_X7_layStreet_3 e (nI x) (nI y) (nI n) I L (fun I2 => C_X7_settle_3 e I2 L (fun I5 => C_X11_build_73 e (nI x) (nI y) (nI n) (va_up I5 0 (va_up (I5 0) 12 (I5 0 12 + nI 1))) L (fun r' K => Q (nI (t 1 (8 * x + y))) r' K))) := by
            intro h5 hz hr
            have ht := tok_lay hk2 hx hy hxy hn (by omega) hr
            refine c_layStreet_3 hk2 (by omega) (by omega) hxy hn hz c1 c2 (by rw [← cn_fl]; exact c4) cS (fun k hk hb => ⟨cM k hk hb, cR k hk hb⟩) (fun I2 a1 a2 a3 a4 a5 => ?_)
            refine hend (layT t x y n) I2 ht ⟨(a2 0 (by decide)).trans c0, (a2 1 (by decide)).trans c1, (a2 2 (by decide)).trans c2, (a2 3 (by decide)).trans c3, by rw [cn_fl]; exact a3, (a2 7 (by decide)).trans c7, (a2 8 (by decide)).trans c8, a4, fun k hk hb => (a5 k hk hb).1, fun k hk hb => (a5 k hk hb).2, fun j hj => ?_, fun j hj => ?_, fun j hj => ?_, fun i hi => ?_⟩ (fun a ha => a1 a (by omega) (by omega) (by omega) (by omega)) (fun J j1 j2 j3 => ?_)
            · show I2 11 j = _
              rw [a1 11 (by decide) (by decide) (by decide) (by decide)]; exact cF j hj
            · show I2 12 j = _
              rw [a1 12 (by decide) (by decide) (by decide) (by decide)]; exact cO j hj
            · show I2 13 j = _
              rw [a1 13 (by decide) (by decide) (by decide) (by decide)]; exact cH j hj
            · show I2 14 i = _
              rw [a1 14 (by decide) (by decide) (by decide) (by decide)]; exact cL i hi
            · have MJ : MT t J := by
                rw [MT_w] at hM2 ⊢
                exact MTw_c (fun a h1 h2 => j2 a (by omega) (by omega)) hM2
              refine m_build MJ hk2 hx hy hxy hn (by omega) hz hr (fun K k1 k2 k3 k4 k5 k6 => ?_)
              refine hQ _ _ (layT t x y n) (Rel_up hR hm ht (CTb_c (b := 3) (fun a h1 h2 => k2 a (by omega) (by omega) (by omega) (by omega)) j1) k1 ?_ ?_ (fun a h1 h2 h3 h4 => ?_) (fun k h1 => ?_) (fun k h1 => ?_) (fun k h1 => ?_) (fun k h1 => ?_) (fun k h1 => ?_) (fun k h1 => ?_) (fun k h1 => ?_))
              · rw [k2 0 (by decide) (by decide) (by decide) (by decide)]; exact j3
              · rw [k3, j2 73 (by decide) (by omega)]
              · rw [k2 a h3 (by omega) (by omega) (by omega)]; exact j2 a h1 h2
              · rw [k2 79 (by decide) (by decide) (by decide) (by decide), j2 79 (by decide) (by omega)]
              · rw [k2 80 (by decide) (by decide) (by decide) (by decide), j2 80 (by decide) (by omega)]
              · rw [k4 k h1, j2 81 (by decide) (by omega)]
              · rw [k5 k h1, j2 82 (by decide) (by omega)]
              · rw [k6 k h1, j2 83 (by decide) (by omega)]
              · rw [k2 84 (by decide) (by decide) (by decide) (by decide), j2 84 (by decide) (by omega)]
              · rw [k2 85 (by decide) (by decide) (by decide) (by decide), j2 85 (by decide) (by omega)]
          have hno : ∀ J, J = I → C_X11_build_73 e (nI x) (nI y) (nI n) J L (fun r' K => Q (-5 : Int32) r' K) ∨ True := fun _ _ => Or.inr trivial
          by_cases h5 : 0 < t 0 5
          · have q5 := eq_true h5
            have hm5 : C_X11_build_73 e (nI x) (nI y) (nI n) I L (fun r' K => Q (-5 : Int32) r' K) := by
              refine b_X11_build_73 ?_
              simp (disch := omega) only [pk_mul, nI_add, ksub, kdv, kd8, kd64, kd2, kd3, km8, km64, kt8, ke8, ke64, kcl, kin, kle, klt, keq, up_s, up_n, up_u, true_and, and_true, false_implies, true_implies, not_false_eq_true, not_true_eq_false, m1, kzl, kcz, knl, kl9, q1, m5, q5, gx, gy, gn]
              exact hQ _ _ _ f1
            refine b_X10_build_0 ?_
            by_cases h0 : t 1 (8 * x + y) = 0
            · have q2 := eq_true h0
              by_cases hn0 : n ≤ 0
              · have q3 := eq_true hn0
                simp (disch := omega) only [pk_mul, nI_add, ksub, kdv, kd8, kd64, kd2, kd3, km8, km64, kt8, ke8, ke64, kcl, kin, kle, klt, keq, up_s, up_n, up_u, true_and, and_true, false_implies, true_implies, not_false_eq_true, not_true_eq_false, c0, knl, q1, q2, q3, e1, c8, q5, gx, gy, gn]
                exact hm5
              · have q3 := eq_false hn0
                simp (disch := omega) only [pk_mul, nI_add, ksub, kdv, kd8, kd64, kd2, kd3, km8, km64, kt8, ke8, ke64, kcl, kin, kle, klt, keq, up_s, up_n, up_u, true_and, and_true, false_implies, true_implies, not_false_eq_true, not_true_eq_false, c0, knl, q1, q2, q3, e1, c4, c8, q5, gx, gy, gn]
                exact ⟨fun _ => hm5, fun _ => hm5⟩
            · have q2 := eq_false h0
              simp (disch := omega) only [pk_mul, nI_add, ksub, kdv, kd8, kd64, kd2, kd3, km8, km64, kt8, ke8, ke64, kcl, kin, kle, klt, keq, up_s, up_n, up_u, true_and, and_true, false_implies, true_implies, not_false_eq_true, not_true_eq_false, c0, knl, q1, q2, e1, c8, q5, gx, gy, gn]
              exact hm5
          · have q5 := eq_false h5
            refine b_X10_build_0 ?_
            by_cases h0 : t 1 (8 * x + y) = 0
            · have q2 := eq_true h0
              by_cases hn0 : n ≤ 0
              · have q3 := eq_true hn0
                have q6 : (t 1 (8 * x + y) ≤ 0) = True := eq_true (by omega)
                have q7 : (0 < t 1 (8 * x + y)) = False := eq_false (by omega)
                simp (disch := omega) only [pk_mul, nI_add, ksub, kdv, kd8, kd64, kd2, kd3, km8, km64, kt8, ke8, ke64, kcl, kin, kle, klt, keq, up_s, up_n, up_u, true_and, and_true, false_implies, true_implies, not_false_eq_true, not_true_eq_false, c0, knl, q1, q2, q3, e1, c8, q5, gx, gy, gn]
                refine b_X7_layStreet_3 ?_
                simp (disch := omega) only [pk_mul, nI_add, ksub, kdv, kd8, kd64, kd2, kd3, km8, km64, kt8, ke8, ke64, kcl, kin, kle, klt, keq, up_s, up_n, up_u, true_and, and_true, false_implies, true_implies, not_false_eq_true, not_true_eq_false, e1, q6, q3]
                have hz8 := oY x (by omega) y (by omega)
                refine hend t _ hk2 ⟨c0, c1, c2, c3, c4, c7, c8, fun k hk => ?_, cM, cR, cF, cO, cH, cL⟩ (fun a ha => up_n (by omega)) (fun J j1 j2 j3 => ?_)
                · show va_up (va_up (I 4) (8 * x + y) (nI n)) (8 * y + x) (nI n) k = _
                  by_cases hb : k = 8 * y + x
                  · rw [hb, up_s, ← hz8, h0, show n = 0 from by omega]
                  · rw [up_n hb]
                    by_cases ha : k = 8 * x + y
                    · rw [ha, up_s, h0, show n = 0 from by omega]
                    · rw [up_n ha]; exact cS k hk
                · have MJ : MT t J := by
                    rw [MT_w] at hM2 ⊢
                    exact MTw_c (fun a h1 h2 => j2 a (by omega) (by omega)) hM2
                  have m1J := MJ.2.1
                  have m5J := MJ.2.2.2.2.2.1
                  have e2J := MJ.2.2.2.2.2.2.1 (8 * x + y) (by omega)
                  refine b_X11_build_73 ?_
                  simp (disch := omega) only [pk_mul, nI_add, ksub, kdv, kd8, kd64, kd2, kd3, km8, km64, kt8, ke8, ke64, kcl, kin, kle, klt, keq, up_s, up_n, up_u, true_and, and_true, false_implies, true_implies, not_false_eq_true, not_true_eq_false, m1J, kzl, kcz, knl, kl9, q1, q2, q3, q7, e2J, m5J, q5, gx, gy, gn]
                  refine hQ _ _ t (Rel_up hR hm hk2 (CTb_c (b := 3) (fun a h1 h2 => up_n (by omega)) j1) (MT_0 MJ) ?_ ?_ (fun a h1 h2 h3 h4 => ?_) (fun k h1 => ?_) (fun k h1 => ?_) (fun k h1 => ?_) (fun k h1 => ?_) (fun k h1 => ?_) (fun k h1 => ?_) (fun k h1 => ?_))
                  · rw [up_n (by decide)]; exact j3
                  · rw [up_s, j2 73 (by decide) (by omega)]
                  · rw [up_n h3]; exact j2 a h1 h2
                  · rw [up_n (by decide), j2 79 (by decide) (by omega)]
                  · rw [up_n (by decide), j2 80 (by decide) (by omega)]
                  · rw [up_n (by decide), j2 81 (by decide) (by omega)]
                  · rw [up_n (by decide), j2 82 (by decide) (by omega)]
                  · rw [up_n (by decide), j2 83 (by decide) (by omega)]
                  · rw [up_n (by decide), j2 84 (by decide) (by omega)]
                  · rw [up_n (by decide), j2 85 (by decide) (by omega)]
              · have q3 := eq_false hn0
                by_cases h14 : (ar t).length / 2 < 14
                · have q8 := eq_true h14
                  simp (disch := omega) only [pk_mul, nI_add, ksub, kdv, kd8, kd64, kd2, kd3, km8, km64, kt8, ke8, ke64, kcl, kin, kle, klt, keq, up_s, up_n, up_u, true_and, and_true, false_implies, true_implies, not_false_eq_true, not_true_eq_false, c0, knl, q1, q2, q3, e1, c4, c8, q5, q8, gx, gy, gn]
                  exact hlay (by omega) (fun _ => by omega) (fun _ _ => h14)
                · have q8 := eq_false h14
                  simp (disch := omega) only [pk_mul, nI_add, ksub, kdv, kd8, kd64, kd2, kd3, km8, km64, kt8, ke8, ke64, kcl, kin, kle, klt, keq, up_s, up_n, up_u, true_and, and_true, false_implies, true_implies, not_false_eq_true, not_true_eq_false, c0, knl, q1, q2, q3, e1, c4, c8, q5, q8, gx, gy, gn]
                  refine b_X11_build_73 ?_
                  simp (disch := omega) only [pk_mul, nI_add, ksub, kdv, kd8, kd64, kd2, kd3, km8, km64, kt8, ke8, ke64, kcl, kin, kle, klt, keq, up_s, up_n, up_u, true_and, and_true, false_implies, true_implies, not_false_eq_true, not_true_eq_false, m1, kzl, kcz, knl, kl9, q1, q2, q3, e2, m5, q5, gx, gy, gn]
                  refine c_streetsW (t := t) (w := 0) (by omega) (fun k hk => by rw [Nat.mul_zero, Nat.zero_add]; exact mS k hk) o9 ?_
                  rw [cn_fl] at h14 o28
                  have q6 : (cn (arp t) 64 / 2 = 14) = True := eq_true (by omega)
                  simp (disch := omega) only [pk_mul, nI_add, ksub, kdv, kd8, kd64, kd2, kd3, km8, km64, kt8, ke8, ke64, kcl, kin, kle, klt, keq, up_s, up_n, up_u, true_and, and_true, false_implies, true_implies, not_false_eq_true, not_true_eq_false, q6]
                  exact hQ _ _ _ f1
            · have q2 := eq_false h0
              simp (disch := omega) only [pk_mul, nI_add, ksub, kdv, kd8, kd64, kd2, kd3, km8, km64, kt8, ke8, ke64, kcl, kin, kle, klt, keq, up_s, up_n, up_u, true_and, and_true, false_implies, true_implies, not_false_eq_true, not_true_eq_false, c0, knl, q1, q2, e1, c8, q5, gx, gy, gn]
              exact hlay (by omega) (fun h => absurd h h0) (fun h => absurd h h0)
