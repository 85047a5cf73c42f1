/-! beside, corner, led, bare -/
theorem hst_i {t : tw} : ∀ {m : Nat} {lf : Nat → Nat}, hst t m lf → ∀ i, i < m → t 7 i < 512 ∧ tB t (t 7 i) = true ∧ t 8 i ≤ 1 := by
  intro m
  induction m with
  | zero => intro lf _ i h; omega
  | succ m ih =>
    intro lf h i hi
    obtain ⟨h1, h2, h3, h4⟩ := h
    by_cases he : i = m
    · rw [he]
      refine ⟨h1, h2, ?_⟩
      rcases h3 with h | h <;> omega
    · exact ih h4 i (by omega)
theorem c_besideOf {e : am_V} {I : Nat → Nat → Int32} {L : Nat → Nat → Int64} {t : tw} {Q : Int32 → (Nat → Nat → Int32) → Prop} {x : Nat} (hM : MT t I) (hk : tok t) (hx : x < 8) (hQ : Q (nI (bts (nbp t x) 8)) I) : C_X11_besideOf_73 e (nI x) I L Q := by
  obtain ⟨m0, m1, m2, m3, m4, m5, mS, mU, mL, mF, mO, mH, mA, mK⟩ := hM
  obtain ⟨o0, oT, oZ, oY, oD, o9, oN, o28, oB, oX, oE, oF, oA, oH, oU, oV⟩ := hk
  refine b_X11_besideOf_73 ?_
  refine lp_ux (n := t 0 0) (N := 8) (S := Nat) (T := fun y s => T_X11_besideOf_73_p4 e (nI x) (nI s) (nI y) I L Q) (fun y s => s = bts (nbp t x) y) o0 ?_ ?_ ?_ 0 rfl
  · intro y s h1 h2 hi
    rw [bts_s, if_neg, Nat.or_zero]
    · exact hi
    · unfold nbp
      rw [decide_eq_true_eq]
      intro h
      have := oN x hx y h2 h
      omega
  · intro y s hy hi hnext
    have q1 : (t 0 0 ≤ y) = False := eq_false (by omega)
    have e1 := mS (8 * x + y) (by omega)
    have u1 := o9 (8 * x + y) (by omega)
    have sh := ksh y (by omega)
    refine b_X11_besideOf_73_p4 ?_
    simp (disch := omega) only [pk_mul, nI_add, ksub, kdv, kd8, kd64, kd2, kd3, km8, km64, kt8, ke8, ke64, kcl, kin, kle, klt, keq, up_s, up_n, up_u, true_and, and_true, false_implies, true_implies, not_false_eq_true, not_true_eq_false, m1, q1, e1, sh, fa_or, Nat.or_zero]
    refine ⟨fun h => hnext s ?_, fun h => hnext (s ||| 2 ^ y) ?_⟩
    · rw [bts_s, if_neg, Nat.or_zero]
      · exact hi
      · unfold nbp
        rw [decide_eq_true_eq]
        omega
    · rw [bts_s, if_pos, hi]
      unfold nbp
      rw [decide_eq_true_eq]
      omega
  · intro s hi
    have q1 : (t 0 0 ≤ t 0 0) = True := eq_true (Nat.le_refl _)
    refine b_X11_besideOf_73_p4 ?_
    simp (disch := omega) only [pk_mul, nI_add, ksub, kdv, kd8, kd64, kd2, kd3, km8, km64, kt8, ke8, ke64, kcl, kin, kle, klt, keq, up_s, up_n, up_u, true_and, and_true, false_implies, true_implies, not_false_eq_true, not_true_eq_false, m1, q1]
    rw [hi]
    exact hQ
theorem q_beside {e : am_V} {I : Nat → Nat → Int32} {L : Nat → Nat → Int64} {t : tw} {Q : Int32 → Int32 → (Nat → Nat → Int32) → Prop} {v1 : Int32} (hC : CT t I) (hM : MT t I) (hk : tok t) (hQ : ∀ r J, fr SC FC I J → Q r r J) : C_X10_beside_0 e v1 I L (fun r J => C_X11_beside_73 e v1 J L (fun r' K => Q r r' K)) := by
  have hM2 := hM
  have hk2 := hk
  obtain ⟨c0, c1, c2, c3, c4, c5, c6, c7, c8, cS, cD, cN, cA, cT, cM, cR, cF, cO, cH, cL⟩ := hC
  obtain ⟨m0, m1, m2, m3, m4, m5, mS, mU, mL, mF, mO, mH, mA, mK⟩ := hM
  obtain ⟨o0, oT, oZ, oY, oD, o9, oN, o28, oB, oX, oE, oF, oA, oH, oU, oV⟩ := hk
  have f0 : fr SC FC I (va_up I 73 (va_up (I 73) 0 (nI 0))) := fr_73 (fr_refl _ _ _) rfl
  rcases crs v1 (t 0 0) (by omega) with ax | ⟨ax, dx⟩ | ⟨x, hx, rfl⟩
  · (refine b_X10_beside_0 ?_; simp (disch := omega) only [pk_mul, nI_add, ksub, kdv, kd8, kd64, kd2, kd3, km8, km64, kt8, ke8, ke64, kcl, kin, kle, klt, keq, up_s, up_n, up_u, true_and, and_true, false_implies, true_implies, not_false_eq_true, not_true_eq_false, ax, c0, knl]; refine b_X11_beside_73 ?_; simp (disch := omega) only [pk_mul, nI_add, ksub, kdv, kd8, kd64, kd2, kd3, km8, km64, kt8, ke8, ke64, kcl, kin, kle, klt, keq, up_s, up_n, up_u, true_and, and_true, false_implies, true_implies, not_false_eq_true, not_true_eq_false, ax, m1, kzl, kcz, knl]; exact hQ _ _ f0)
  · (refine b_X10_beside_0 ?_; simp (disch := omega) only [pk_mul, nI_add, ksub, kdv, kd8, kd64, kd2, kd3, km8, km64, kt8, ke8, ke64, kcl, kin, kle, klt, keq, up_s, up_n, up_u, true_and, and_true, false_implies, true_implies, not_false_eq_true, not_true_eq_false, ax, dx, c0, knl]; refine b_X11_beside_73 ?_; simp (disch := omega) only [pk_mul, nI_add, ksub, kdv, kd8, kd64, kd2, kd3, km8, km64, kt8, ke8, ke64, kcl, kin, kle, klt, keq, up_s, up_n, up_u, true_and, and_true, false_implies, true_implies, not_false_eq_true, not_true_eq_false, ax, dx, m1, kzl, kcz, knl]; exact hQ _ _ f0)
  · have gx : (t 0 0 ≤ x) = False := eq_false (by omega)
    have hln : (nb t x).length ≤ 8 := by rw [cn_fl]; exact cn_n _ _
    have e5 := cD x (by omega)
    refine b_X10_beside_0 ?_
    simp (disch := omega) only [pk_mul, nI_add, ksub, kdv, kd8, kd64, kd2, kd3, km8, km64, kt8, ke8, ke64, kcl, kin, kle, klt, keq, up_s, up_n, up_u, true_and, and_true, false_implies, true_implies, not_false_eq_true, not_true_eq_false, c0, knl, gx]
    refine lp_fl (l := nb t x) rfl (N := 8) (p := nbp t x) (S := Nat) (T := fun i s => T_X10_beside_0_p18 e (nI x) (nI s) (nI i) I L _) (fun y s => s = bts (nbp t x) y) ?_ ?_ ?_ 0 rfl
    · intro y s hy hp hi
      rw [bts_s, hp, if_neg (by decide), Nat.or_zero]
      exact hi
    · intro y i s hy hp hi hiy hs hnext
      have q1 : ((nb t x).length ≤ i) = False := eq_false (by omega)
      have e6 := cN x (by omega) i hi
      rw [hiy] at e6
      have sh := ksh y (by omega)
      refine b_X10_beside_0_p18 ?_
      simp (disch := omega) only [pk_mul, nI_add, ksub, kdv, kd8, kd64, kd2, kd3, km8, km64, kt8, ke8, ke64, kcl, kin, kle, klt, keq, up_s, up_n, up_u, true_and, and_true, false_implies, true_implies, not_false_eq_true, not_true_eq_false, e5, q1, e6, sh, fa_or]
      refine hnext _ ?_
      rw [bts_s, hp, if_pos rfl, hs]
    · intro s hs
      have q1 : ((nb t x).length ≤ (nb t x).length) = True := eq_true (Nat.le_refl _)
      refine b_X10_beside_0_p18 ?_
      simp (disch := omega) only [pk_mul, nI_add, ksub, kdv, kd8, kd64, kd2, kd3, km8, km64, kt8, ke8, ke64, kcl, kin, kle, klt, keq, up_s, up_n, up_u, true_and, and_true, false_implies, true_implies, not_false_eq_true, not_true_eq_false, e5, q1]
      refine b_X11_beside_73 ?_
      simp (disch := omega) only [pk_mul, nI_add, ksub, kdv, kd8, kd64, kd2, kd3, km8, km64, kt8, ke8, ke64, kcl, kin, kle, klt, keq, up_s, up_n, up_u, true_and, and_true, false_implies, true_implies, not_false_eq_true, not_true_eq_false, m1, kzl, kcz, knl, gx]
      refine c_besideOf (MT_0 hM2) hk2 (by omega) ?_
      rw [hs]
      exact hQ _ _ f0
theorem w0123 (v : Int32) : v < nI 0 ∨ (¬ v < nI 0 ∧ ¬ v ≤ nI 3) ∨ (v = nI 0 ∨ v = nI 1 ∨ v = nI 2 ∨ v = nI 3) := by
  by_cases h : v < nI 0
  · exact Or.inl h
  · by_cases h2 : v ≤ nI 3
    · obtain ⟨j, hj, rfl⟩ := nI_of h
      rw [nI_leI hj (by decide)] at h2
      have : j = 0 ∨ j = 1 ∨ j = 2 ∨ j = 3 := by omega
      rcases this with rfl | rfl | rfl | rfl
      · exact Or.inr (Or.inr (Or.inl rfl))
      · exact Or.inr (Or.inr (Or.inr (Or.inl rfl)))
      · exact Or.inr (Or.inr (Or.inr (Or.inr (Or.inl rfl))))
      · exact Or.inr (Or.inr (Or.inr (Or.inr (Or.inr rfl))))
    · exact Or.inr (Or.inl ⟨h, h2⟩)
theorem q_led {e : am_V} {I : Nat → Nat → Int32} {L : Nat → Nat → Int64} {t : tw} {Q : Int32 → Int32 → (Nat → Nat → Int32) → Prop} {v1 v2 : Int32} (hC : CT t I) (hM : MT t I) (hk : tok t) (hQ : ∀ r J, fr SC FC I J → Q r r J) : C_X10_led_0 e v1 v2 I L (fun r J => C_X11_led_73 e v1 v2 J L (fun r' K => Q r r' K)) := by
  obtain ⟨c0, c1, c2, c3, c4, c5, c6, c7, c8, cS, cD, cN, cA, cT, cM, cR, cF, cO, cH, cL⟩ := hC
  obtain ⟨m0, m1, m2, m3, m4, m5, mS, mU, mL, mF, mO, mH, mA, mK⟩ := hM
  obtain ⟨o0, oT, oZ, oY, oD, o9, oN, o28, oB, oX, oE, oF, oA, oH, oU, oV⟩ := hk
  have f0 : fr SC FC I (va_up I 73 (va_up (I 73) 0 (nI 0))) := fr_73 (fr_refl _ _ _) rfl
  by_cases h0 : t 0 0 ≤ 0
  · have g0 := eq_true h0
    have g1 : (t 0 3 ≤ 0) = True := eq_true (by omega)
    (refine b_X10_led_0 ?_; simp (disch := omega) only [pk_mul, nI_add, ksub, kdv, kd8, kd64, kd2, kd3, km8, km64, kt8, ke8, ke64, kcl, kin, kle, klt, keq, up_s, up_n, up_u, true_and, and_true, false_implies, true_implies, not_false_eq_true, not_true_eq_false, c0, g0]; refine b_X11_led_73 ?_; simp (disch := omega) only [pk_mul, nI_add, ksub, kdv, kd8, kd64, kd2, kd3, km8, km64, kt8, ke8, ke64, kcl, kin, kle, klt, keq, up_s, up_n, up_u, true_and, and_true, false_implies, true_implies, not_false_eq_true, not_true_eq_false, m0, g1]; exact hQ _ _ f0)
  · have g0 := eq_false h0
    have g1 : (t 0 3 ≤ 0) = False := eq_false (by omega)
    rcases w0123 v2 with a2 | ⟨a2, d2⟩ | hv2
    · (refine b_X10_led_0 ?_; simp (disch := omega) only [pk_mul, nI_add, ksub, kdv, kd8, kd64, kd2, kd3, km8, km64, kt8, ke8, ke64, kcl, kin, kle, klt, keq, up_s, up_n, up_u, true_and, and_true, false_implies, true_implies, not_false_eq_true, not_true_eq_false, c0, g0, a2]; refine b_X11_led_73 ?_; simp (disch := omega) only [pk_mul, nI_add, ksub, kdv, kd8, kd64, kd2, kd3, km8, km64, kt8, ke8, ke64, kcl, kin, kle, klt, keq, up_s, up_n, up_u, true_and, and_true, false_implies, true_implies, not_false_eq_true, not_true_eq_false, m0, g1, kzl, a2]; exact hQ _ _ f0)
    · (refine b_X10_led_0 ?_; simp (disch := omega) only [pk_mul, nI_add, ksub, kdv, kd8, kd64, kd2, kd3, km8, km64, kt8, ke8, ke64, kcl, kin, kle, klt, keq, up_s, up_n, up_u, true_and, and_true, false_implies, true_implies, not_false_eq_true, not_true_eq_false, c0, g0, a2, d2]; refine b_X11_led_73 ?_; simp (disch := omega) only [pk_mul, nI_add, ksub, kdv, kd8, kd64, kd2, kd3, km8, km64, kt8, ke8, ke64, kcl, kin, kle, klt, keq, up_s, up_n, up_u, true_and, and_true, false_implies, true_implies, not_false_eq_true, not_true_eq_false, m0, g1, kzl, kl3, a2, d2]; exact hQ _ _ f0)
    · have a2 : ¬ v2 < nI 0 := by rcases hv2 with rfl | rfl | rfl | rfl <;> decide
      have d2 : v2 ≤ nI 3 := by rcases hv2 with rfl | rfl | rfl | rfl <;> decide
      rcases crs v1 (t 0 5) (by omega) with ax | ⟨ax, dx⟩ | ⟨x, hx, rfl⟩
      · (refine b_X10_led_0 ?_; simp (disch := omega) only [pk_mul, nI_add, ksub, kdv, kd8, kd64, kd2, kd3, km8, km64, kt8, ke8, ke64, kcl, kin, kle, klt, keq, up_s, up_n, up_u, true_and, and_true, false_implies, true_implies, not_false_eq_true, not_true_eq_false, c0, g0, a2, d2, ax]; refine b_X11_led_73 ?_; simp (disch := omega) only [pk_mul, nI_add, ksub, kdv, kd8, kd64, kd2, kd3, km8, km64, kt8, ke8, ke64, kcl, kin, kle, klt, keq, up_s, up_n, up_u, true_and, and_true, false_implies, true_implies, not_false_eq_true, not_true_eq_false, m0, g1, kzl, kl3, a2, d2, ax]; exact hQ _ _ f0)
      · have dx2 := eq_false (i32_nlt dx)
        (refine b_X10_led_0 ?_; simp (disch := omega) only [pk_mul, nI_add, ksub, kdv, kd8, kd64, kd2, kd3, km8, km64, kt8, ke8, ke64, kcl, kin, kle, klt, keq, up_s, up_n, up_u, true_and, and_true, false_implies, true_implies, not_false_eq_true, not_true_eq_false, c0, c8, g0, a2, d2, ax, dx2]; refine b_X11_led_73 ?_; simp (disch := omega) only [pk_mul, nI_add, ksub, kdv, kd8, kd64, kd2, kd3, km8, km64, kt8, ke8, ke64, kcl, kin, kle, klt, keq, up_s, up_n, up_u, true_and, and_true, false_implies, true_implies, not_false_eq_true, not_true_eq_false, m0, m5, g1, kzl, kcz1, kcz3, kl3, a2, d2, ax, dx]; exact hQ _ _ f0)
      · obtain ⟨s1, s2, s3⟩ := hst_i oH x hx
        have gx : (x < t 0 5) = True := eq_true hx
        have gx2 : (t 0 5 ≤ x) = False := eq_false (by omega)
        have e1 := cL x hx
        have e2 := mA x hx
        have e3 := mK x hx
        have r1 : (2 * t 7 x + t 8 x) / 2 = t 7 x := by omega
        have r2 : (2 * t 7 x + t 8 x) % 2 = t 8 x := by omega
        have r3 : 2 * t 7 x + t 8 x - t 7 x * 2 = t 8 x := by omega
        rcases hv2 with rfl | rfl | rfl | rfl
        · (refine b_X10_led_0 ?_; simp (disch := omega) only [pk_mul, nI_add, ksub, kdv, kd8, kd64, kd2, kd3, km8, km64, kt8, ke8, ke64, kcl, kin, kle, klt, keq, up_s, up_n, up_u, true_and, and_true, false_implies, true_implies, not_false_eq_true, not_true_eq_false, c0, c8, g0, d2, gx, knl, e1, r1, r2, ti0, false_or, or_false]; refine b_X11_led_73 ?_; simp (disch := omega) only [pk_mul, nI_add, ksub, kdv, kd8, kd64, kd2, kd3, km8, km64, kt8, ke8, ke64, kcl, kin, kle, klt, keq, up_s, up_n, up_u, true_and, and_true, false_implies, true_implies, not_false_eq_true, not_true_eq_false, m0, m5, g1, kzl, kcz1, kcz3, kl3, d2, gx2, knl, e2, e3]; exact hQ _ _ f0)
        · have z1 : ((1 : Nat) = 0) = False := eq_false (by decide)
          (refine b_X10_led_0 ?_; simp (disch := omega) only [pk_mul, nI_add, ksub, kdv, kd8, kd64, kd2, kd3, km8, km64, kt8, ke8, ke64, kcl, kin, kle, klt, keq, up_s, up_n, up_u, true_and, and_true, false_implies, true_implies, not_false_eq_true, not_true_eq_false, c0, c8, g0, d2, gx, knl, e1, r1, r2, ti1, false_or, or_false]; refine b_X11_led_73 ?_; simp (disch := omega) only [pk_mul, nI_add, ksub, kdv, kd8, kd64, kd2, kd3, km8, km64, kt8, ke8, ke64, kcl, kin, kle, klt, keq, up_s, up_n, up_u, true_and, and_true, false_implies, true_implies, not_false_eq_true, not_true_eq_false, m0, m5, g1, kzl, kcz1, kcz3, kl3, d2, gx2, knl, e2, e3, z1]; exact hQ _ _ f0)
        · have z1 : ((2 : Nat) = 0) = False := eq_false (by decide)
          have z2 : ((2 : Nat) = 1) = False := eq_false (by decide)
          (refine b_X10_led_0 ?_; simp (disch := omega) only [pk_mul, nI_add, ksub, kdv, kd8, kd64, kd2, kd3, km8, km64, kt8, ke8, ke64, kcl, kin, kle, klt, keq, up_s, up_n, up_u, true_and, and_true, false_implies, true_implies, not_false_eq_true, not_true_eq_false, c0, c8, g0, d2, gx, knl, e1, r1, r2, ti2, false_or, or_false]; refine b_X11_led_73 ?_; simp (disch := omega) only [pk_mul, nI_add, ksub, kdv, kd8, kd64, kd2, kd3, km8, km64, kt8, ke8, ke64, kcl, kin, kle, klt, keq, up_s, up_n, up_u, true_and, and_true, false_implies, true_implies, not_false_eq_true, not_true_eq_false, m0, m5, g1, kzl, kcz1, kcz3, kl3, d2, gx2, knl, e2, e3, z1, z2]; exact hQ _ _ f0)
        · have z1 : ((3 : Nat) = 0) = False := eq_false (by decide)
          have z2 : ((3 : Nat) = 1) = False := eq_false (by decide)
          have z3 : ((3 : Nat) = 2) = False := eq_false (by decide)
          (refine b_X10_led_0 ?_; simp (disch := omega) only [pk_mul, nI_add, ksub, kdv, kd8, kd64, kd2, kd3, km8, km64, kt8, ke8, ke64, kcl, kin, kle, klt, keq, up_s, up_n, up_u, true_and, and_true, false_implies, true_implies, not_false_eq_true, not_true_eq_false, c0, c8, g0, d2, gx, knl, e1, r1, r2, r3, ti3, false_or, or_true]; refine b_X11_led_73 ?_; simp (disch := omega) only [pk_mul, nI_add, ksub, kdv, kd8, kd64, kd2, kd3, km8, km64, kt8, ke8, ke64, kcl, kin, kle, klt, keq, up_s, up_n, up_u, true_and, and_true, false_implies, true_implies, not_false_eq_true, not_true_eq_false, m0, m5, g1, kzl, kcz1, kcz3, kl3, d2, gx2, knl, e2, e3, z1, z2, z3]; exact hQ _ _ f0)
/-- sums of parts -/
theorem sm_mul (f : Nat → Nat) (m n : Nat) : sm f (m * n) = sm (fun i => sm (fun j => f (m * i + j)) m) n := by
  induction n with
  | zero => rfl
  | succ n ih =>
    show sm f (m * (n + 1)) = sm (fun i => sm (fun j => f (m * i + j)) m) n + sm (fun j => f (m * n + j)) m
    rw [← ih, Nat.mul_succ]
    have : ∀ k, sm f (m * n + k) = sm f (m * n) + sm (fun j => f (m * n + j)) k := by
      intro k
      induction k with
      | zero => rfl
      | succ k ih2 =>
        show sm f (m * n + k) + f (m * n + k) = sm f (m * n) + (sm (fun j => f (m * n + j)) k + f (m * n + k))
        rw [ih2]
        omega
    exact this m
theorem sm_0 {f : Nat → Nat} {n : Nat} (h : ∀ k, k < n → f k = 0) : sm f n = 0 := by
  induction n with
  | zero => rfl
  | succ n ih =>
    show sm f n + f n = 0
    rw [ih (fun k hk => h k (by omega)), h n (by omega)]
theorem sm_1 {f : Nat → Nat} {n x : Nat} (hx : x < n) (h : ∀ k, k < n → k ≠ x → f k = 0) : sm f n = f x := by
  induction n with
  | zero => omega
  | succ n ih =>
    show sm f n + f n = f x
    by_cases he : x = n
    · rw [he, sm_0 (fun k hk => h k (by omega) (by omega))]
      omega
    · rw [ih (by omega) (fun k hk => h k (by omega)), h n (by omega) (by omega)]
      omega
/-- what corner counts -/
def cnv (w v : Nat) : Nat := if w = 0 then 1 else if w = 2 then v else if v = 0 then 0 else 1
def cnf (t : tw) (x w k : Nat) : Nat := if tB t k = true ∧ k / 8 % 8 = x then cnv w (t 3 k) else 0
theorem cnf_s {t : tw} {x w : Nat} (hx : x < 8) : sm (cnf t x w) 512 = sm (fun a => sm (fun b => cnf t x w (64 * a + 8 * x + b)) 8) 8 := by
  have h1 := sm_mul (cnf t x w) 64 8
  rw [show 64 * 8 = 512 from rfl] at h1
  rw [h1]
  refine sm_c (fun a ha => ?_)
  have h2 := sm_mul (fun j => cnf t x w (64 * a + j)) 8 8
  rw [show 8 * 8 = 64 from rfl] at h2
  rw [h2, sm_1 hx]
  · refine sm_c (fun b hb => ?_)
    rw [Nat.add_assoc]
  · intro y hy hne
    refine sm_0 (fun b hb => ?_)
    show cnf t x w (64 * a + (8 * y + b)) = 0
    unfold cnf
    rw [if_neg]
    rintro ⟨_, h⟩
    omega
theorem cnv_b {w v : Nat} (h : v ≤ 9) : cnv w v ≤ 9 := by
  unfold cnv
  split
  · omega
  · split
    · exact h
    · split <;> omega
theorem cnf_b {t : tw} {x w : Nat} (hk : tok t) {k : Nat} (h5 : k ≤ 512) : sm (cnf t x w) k ≤ 4608 := by
  obtain ⟨o0, oT, oZ, oY, oD, o9, oN, o28, oB, oX, oE, oF, oA, oH, oU, oV⟩ := hk
  have h1 : sm (cnf t x w) k ≤ k * 9 := sm_bd (fun j hj => by
    unfold cnf
    split
    · exact cnv_b (oB j (by omega)).2
    · omega)
  omega
theorem q_corner {e : am_V} {I : Nat → Nat → Int32} {L : Nat → Nat → Int64} {t : tw} {Q : Int32 → Int32 → (Nat → Nat → Int32) → Prop} {v1 v2 : Int32} (hC : CT t I) (hM : MT t I) (hk : tok t) (hQ : ∀ r J, fr SC FC I J → Q r r J) : C_X10_corner_0 e v1 v2 I L (fun r J => C_X11_corner_73 e v1 v2 J L (fun r' K => Q r r' K)) := by
  have hM2 := hM
  have hk2 := hk
  obtain ⟨c0, c1, c2, c3, c4, c5, c6, c7, c8, cS, cD, cN, cA, cT, cM, cR, cF, cO, cH, cL⟩ := hC
  obtain ⟨m0, m1, m2, m3, m4, m5, mS, mU, mL, mF, mO, mH, mA, mK⟩ := hM
  obtain ⟨o0, oT, oZ, oY, oD, o9, oN, o28, oB, oX, oE, oF, oA, oH, oU, oV⟩ := hk
  have f0 : fr SC FC I (va_up I 73 (va_up (I 73) 0 (nI 0))) := fr_73 (fr_refl _ _ _) rfl
  rcases crs v1 (t 0 0) (by omega) with ax | ⟨ax, dx⟩ | ⟨x, hx, rfl⟩
  · (refine b_X10_corner_0 ?_; simp (disch := omega) only [pk_mul, nI_add, ksub, kdv, kd8, kd64, kd2, kd3, km8, km64, kt8, ke8, ke64, kcl, kin, kle, klt, keq, up_s, up_n, up_u, true_and, and_true, false_implies, true_implies, not_false_eq_true, not_true_eq_false, ax, c0, knl]; refine b_X11_corner_73 ?_; simp (disch := omega) only [pk_mul, nI_add, ksub, kdv, kd8, kd64, kd2, kd3, km8, km64, kt8, ke8, ke64, kcl, kin, kle, klt, keq, up_s, up_n, up_u, true_and, and_true, false_implies, true_implies, not_false_eq_true, not_true_eq_false, ax, m1, kzl, kcz, knl]; exact hQ _ _ f0)
  · (refine b_X10_corner_0 ?_; simp (disch := omega) only [pk_mul, nI_add, ksub, kdv, kd8, kd64, kd2, kd3, km8, km64, kt8, ke8, ke64, kcl, kin, kle, klt, keq, up_s, up_n, up_u, true_and, and_true, false_implies, true_implies, not_false_eq_true, not_true_eq_false, ax, dx, c0, knl]; refine b_X11_corner_73 ?_; simp (disch := omega) only [pk_mul, nI_add, ksub, kdv, kd8, kd64, kd2, kd3, km8, km64, kt8, ke8, ke64, kcl, kin, kle, klt, keq, up_s, up_n, up_u, true_and, and_true, false_implies, true_implies, not_false_eq_true, not_true_eq_false, ax, dx, m1, kzl, kcz, knl]; exact hQ _ _ f0)
  · have gx : (t 0 0 ≤ x) = False := eq_false (by omega)
    have hv2 : v2 < nI 0 ∨ (¬ v2 < nI 0 ∧ ¬ v2 ≤ nI 2) ∨ ∃ w, w ≤ 2 ∧ v2 = nI w := by
      rcases w012 v2 with h | h | h | h | h
      · exact Or.inl h
      · exact Or.inr (Or.inl h)
      · exact Or.inr (Or.inr ⟨0, by omega, h⟩)
      · exact Or.inr (Or.inr ⟨1, by omega, h⟩)
      · exact Or.inr (Or.inr ⟨2, by omega, h⟩)
    rcases hv2 with a2 | ⟨a2, d2⟩ | ⟨w, hw, rfl⟩
    · (refine b_X10_corner_0 ?_; simp (disch := omega) only [pk_mul, nI_add, ksub, kdv, kd8, kd64, kd2, kd3, km8, km64, kt8, ke8, ke64, kcl, kin, kle, klt, keq, up_s, up_n, up_u, true_and, and_true, false_implies, true_implies, not_false_eq_true, not_true_eq_false, a2, gx, c0, knl]; refine b_X11_corner_73 ?_; simp (disch := omega) only [pk_mul, nI_add, ksub, kdv, kd8, kd64, kd2, kd3, km8, km64, kt8, ke8, ke64, kcl, kin, kle, klt, keq, up_s, up_n, up_u, true_and, and_true, false_implies, true_implies, not_false_eq_true, not_true_eq_false, a2, gx, m1, kzl, kcz, knl]; exact hQ _ _ f0)
    · (refine b_X10_corner_0 ?_; simp (disch := omega) only [pk_mul, nI_add, ksub, kdv, kd8, kd64, kd2, kd3, km8, km64, kt8, ke8, ke64, kcl, kin, kle, klt, keq, up_s, up_n, up_u, true_and, and_true, false_implies, true_implies, not_false_eq_true, not_true_eq_false, a2, d2, gx, c0, knl]; refine b_X11_corner_73 ?_; simp (disch := omega) only [pk_mul, nI_add, ksub, kdv, kd8, kd64, kd2, kd3, km8, km64, kt8, ke8, ke64, kcl, kin, kle, klt, keq, up_s, up_n, up_u, true_and, and_true, false_implies, true_implies, not_false_eq_true, not_true_eq_false, a2, d2, gx, m1, kzl, kcz, kl2, knl]; exact hQ _ _ f0)
    · have gw : (w ≤ 2) = True := eq_true hw
      have hlt : (tu t).length ≤ 512 := by rw [cn_fl]; exact cn_n _ _
      refine b_X10_corner_0 ?_
      simp (disch := omega) only [pk_mul, nI_add, ksub, kdv, kd8, kd64, kd2, kd3, km8, km64, kt8, ke8, ke64, kcl, kin, kle, klt, keq, up_s, up_n, up_u, true_and, and_true, false_implies, true_implies, not_false_eq_true, not_true_eq_false, c0, knl, gx, gw]
      refine lp_fl (l := tu t) rfl (N := 512) (p := tB t) (S := Nat) (T := fun i s => T_X10_corner_0_p28 e (nI x) (nI w) (nI s) (nI i) I L _) (fun k s => s = sm (cnf t x w) k) ?_ ?_ ?_ 0 rfl
      · intro k s hk5 hp hi
        show s = sm (cnf t x w) k + cnf t x w k
        have : cnf t x w k = 0 := by
          unfold cnf
          rw [if_neg]
          rintro ⟨h, _⟩
          rw [hp] at h; cases h
        omega
      · intro k i s hk5 hp hi hik hs hnext
        have q2 : ((tu t).length ≤ i) = False := eq_false (by omega)
        have e8 : I 8 i = nI k := by rw [cT i hi, hik]
        have er := cR k hk5 hp
        have ub := (oB k hk5).2
        have us := cnf_b (x := x) (w := w) hk2 (show k ≤ 512 from by omega)
        have hn : ∀ d, cnf t x w k = d → sm (cnf t x w) (k + 1) = s + d := fun d hd => by
          show sm (cnf t x w) k + cnf t x w k = s + d
          omega
        refine b_X10_corner_0_p28 ?_
        simp (disch := omega) only [pk_mul, nI_add, ksub, kdv, kd8, kd64, kd2, kd3, km8, km64, kt8, ke8, ke64, kcl, kin, kle, klt, keq, up_s, up_n, up_u, true_and, and_true, false_implies, true_implies, not_false_eq_true, not_true_eq_false, c6, q2, e8, er]
        refine ⟨fun hx2 => ⟨fun hw0 => ?_, fun hw0 => ⟨fun hw1 => ?_, fun hw1 => ?_⟩⟩, fun hx2 => ?_⟩
        · refine hnext (s + 1) (hn 1 ?_).symm
          unfold cnf cnv
          rw [if_pos ⟨hp, hx2⟩, if_pos hw0]
        · by_cases h1 : 1 < t 3 k
          · rw [if_pos h1]
            simp (disch := omega) only [pk_mul, nI_add, ksub, kdv, kd8, kd64, kd2, kd3, km8, km64, kt8, ke8, ke64, kcl, kin, kle, klt, keq, up_s, up_n, up_u, true_and, and_true, false_implies, true_implies, not_false_eq_true, not_true_eq_false]
            refine hnext (s + 1) (hn 1 ?_).symm
            unfold cnf cnv
            rw [if_pos ⟨hp, hx2⟩, if_neg hw0, if_neg (by omega), if_neg (by omega)]
          · rw [if_neg h1]
            simp (disch := omega) only [pk_mul, nI_add, ksub, kdv, kd8, kd64, kd2, kd3, km8, km64, kt8, ke8, ke64, kcl, kin, kle, klt, keq, up_s, up_n, up_u, true_and, and_true, false_implies, true_implies, not_false_eq_true, not_true_eq_false]
            refine hnext (s + t 3 k) (hn (t 3 k) ?_).symm
            unfold cnf cnv
            rw [if_pos ⟨hp, hx2⟩, if_neg hw0, if_neg (by omega)]
            split <;> omega
        · refine hnext (s + t 3 k) (hn (t 3 k) ?_).symm
          unfold cnf cnv
          rw [if_pos ⟨hp, hx2⟩, if_neg hw0, if_pos (by omega)]
        · refine hnext s (hn 0 ?_).symm
          unfold cnf
          rw [if_neg]
          rintro ⟨_, h⟩
          exact hx2 h
      · intro s hs
        have q2 : ((tu t).length ≤ (tu t).length) = True := eq_true (Nat.le_refl _)
        refine b_X10_corner_0_p28 ?_
        simp (disch := omega) only [pk_mul, nI_add, ksub, kdv, kd8, kd64, kd2, kd3, km8, km64, kt8, ke8, ke64, kcl, kin, kle, klt, keq, up_s, up_n, up_u, true_and, and_true, false_implies, true_implies, not_false_eq_true, not_true_eq_false, c6, q2]
        refine b_X11_corner_73 ?_
        simp (disch := omega) only [pk_mul, nI_add, ksub, kdv, kd8, kd64, kd2, kd3, km8, km64, kt8, ke8, ke64, kcl, kin, kle, klt, keq, up_s, up_n, up_u, true_and, and_true, false_implies, true_implies, not_false_eq_true, not_true_eq_false, m1, kzl, kcz, kl2, knl, gx, gw]
        have hout : ∀ a b, a < 8 → b < 8 → ¬ (a < t 0 0 ∧ b < t 0 0) → cnf t x w (64 * a + 8 * x + b) = 0 := by
          intro a b ha hb hno
          unfold cnf
          rw [if_neg]
          rintro ⟨h, _⟩
          obtain ⟨h1, h2⟩ := tB_i.mp h
          rw [show (64 * a + 8 * x + b) / 8 = 8 * a + x from by omega] at h1
          rw [show (64 * a + 8 * x + b) % 64 = 8 * x + b from by omega] at h2
          have h3 := oN a ha x (by omega) h1
          have h4 := oN x (by omega) b hb h2
          exact hno ⟨h3.1, h4.2⟩
        have hbb : ∀ a, a ≤ 8 → sm (fun a => sm (fun b => cnf t x w (64 * a + 8 * x + b)) 8) a ≤ 1000 := by
          intro a ha
          have h1 : sm (fun a => sm (fun b => cnf t x w (64 * a + 8 * x + b)) 8) a ≤ a * 72 := sm_bd (fun j hj => by
            have h2 : sm (fun b => cnf t x w (64 * j + 8 * x + b)) 8 ≤ 8 * 9 := sm_bd (fun b hb => by
              unfold cnf
              split
              · exact cnv_b (oB _ (by omega)).2
              · omega)
            exact h2)
          omega
        refine lp_ux (n := t 0 0) (N := 8) (S := Nat) (T := fun a s => T_X11_corner_73_p34 e (nI x) (nI w) (nI s) (nI a) _ L _) (fun a s => s = sm (fun a => sm (fun b => cnf t x w (64 * a + 8 * x + b)) 8) a) o0 ?_ ?_ ?_ 0 rfl
        · intro a s h1 h2 hi
          show s = sm (fun a => sm (fun b => cnf t x w (64 * a + 8 * x + b)) 8) a + sm (fun b => cnf t x w (64 * a + 8 * x + b)) 8
          rw [sm_0 (fun b hb => hout a b h2 hb (by omega)), ← hi]
          rfl
        · intro a s ha hi hnext
          have q3 : (t 0 0 ≤ a) = False := eq_false (by omega)
          have b9 := hbb a (by omega)
          refine b_X11_corner_73_p34 ?_
          simp (disch := omega) only [pk_mul, nI_add, ksub, kdv, kd8, kd64, kd2, kd3, km8, km64, kt8, ke8, ke64, kcl, kin, kle, klt, keq, up_s, up_n, up_u, true_and, and_true, false_implies, true_implies, not_false_eq_true, not_true_eq_false, m1, q3]
          refine lp_ux (n := t 0 0) (N := 8) (S := Nat) (T := fun b s => T_X11_corner_73_p46 e (nI x) (nI w) (nI s) (nI a) (nI b) _ L _) (fun b s' => s' = s + sm (fun b => cnf t x w (64 * a + 8 * x + b)) b) o0 ?_ ?_ ?_ s rfl
          · intro b s' h1 h2 hi'
            show s' = s + (sm (fun b => cnf t x w (64 * a + 8 * x + b)) b + cnf t x w (64 * a + 8 * x + b))
            rw [hout a b (by omega) h2 (by omega), hi']
            rfl
          · intro b s' hb hi' hnext2
            have q4 : (t 0 0 ≤ b) = False := eq_false (by omega)
            have e1 := mS (8 * a + x) (by omega)
            have e2 := mS (8 * x + b) (by omega)
            have e3 := mL (64 * a + 8 * x + b) (by omega)
            have u1 := o9 (8 * a + x) (by omega)
            have u2 := o9 (8 * x + b) (by omega)
            have u3 := (oB (64 * a + 8 * x + b) (by omega)).2
            have b8 : sm (fun b => cnf t x w (64 * a + 8 * x + b)) b ≤ b * 9 := sm_bd (fun b hb => by
              unfold cnf
              split
              · exact cnv_b (oB _ (by omega)).2
              · omega)
            have hn : ∀ d, cnf t x w (64 * a + 8 * x + b) = d → s' + d = s + sm (fun b => cnf t x w (64 * a + 8 * x + b)) (b + 1) := fun d hd => by
              show s' + d = s + (sm (fun b => cnf t x w (64 * a + 8 * x + b)) b + cnf t x w (64 * a + 8 * x + b))
              omega
            refine b_X11_corner_73_p46 ?_
            simp (disch := omega) only [pk_mul, nI_add, ksub, kdv, kd8, kd64, kd2, kd3, km8, km64, kt8, ke8, ke64, kcl, kin, kle, klt, keq, up_s, up_n, up_u, true_and, and_true, false_implies, true_implies, not_false_eq_true, not_true_eq_false, m1, q4, e1, e2, e3]
            have hno : ∀ (_ : t 1 (8 * a + x) ≤ 0 ∨ t 1 (8 * x + b) ≤ 0), cnf t x w (64 * a + 8 * x + b) = 0 := by
              intro h
              unfold cnf
              rw [if_neg]
              rintro ⟨h5, _⟩
              obtain ⟨h1, h2⟩ := tB_i.mp h5
              rw [show (64 * a + 8 * x + b) / 8 = 8 * a + x from by omega] at h1
              rw [show (64 * a + 8 * x + b) % 64 = 8 * x + b from by omega] at h2
              omega
            refine ⟨fun h1 => hnext2 s' (hn 0 (hno (Or.inl h1))), fun h1 => ⟨fun h2 => hnext2 s' (hn 0 (hno (Or.inr h2))), fun h2 => ?_⟩⟩
            have hT : tB t (64 * a + 8 * x + b) = true := tB_x (by omega) (by omega) (by omega) (by omega) (by omega)
            have hc : ∀ d, cnv w (t 3 (64 * a + 8 * x + b)) = d → cnf t x w (64 * a + 8 * x + b) = d := by
              intro d hd
              unfold cnf
              rw [if_pos ⟨hT, by omega⟩]
              exact hd
            refine ⟨fun hw0 => hnext2 (s' + 1) (hn 1 (hc 1 ?_)), fun hw0 => ⟨fun hw2 => hnext2 _ (hn _ (hc _ ?_)), fun hw2 => ⟨fun hz => hnext2 (s' + 0) (hn 0 (hc 0 ?_)), fun hz => hnext2 (s' + 1) (hn 1 (hc 1 ?_))⟩⟩⟩
            · unfold cnv; rw [if_pos hw0]
            · unfold cnv; rw [if_neg hw0, if_pos hw2]
            · unfold cnv; rw [if_neg hw0, if_neg hw2, if_pos (by omega)]
            · unfold cnv; rw [if_neg hw0, if_neg hw2, if_neg (by omega)]
          · intro s' hi'
            have q4 : (t 0 0 ≤ t 0 0) = True := eq_true (Nat.le_refl _)
            refine b_X11_corner_73_p46 ?_
            simp (disch := omega) only [pk_mul, nI_add, ksub, kdv, kd8, kd64, kd2, kd3, km8, km64, kt8, ke8, ke64, kcl, kin, kle, klt, keq, up_s, up_n, up_u, true_and, and_true, false_implies, true_implies, not_false_eq_true, not_true_eq_false, m1, q4]
            refine hnext s' ?_
            show s' = sm (fun a => sm (fun b => cnf t x w (64 * a + 8 * x + b)) 8) a + sm (fun b => cnf t x w (64 * a + 8 * x + b)) 8
            rw [← hi]
            exact hi'
        · intro s' hi
          have q4 : (t 0 0 ≤ t 0 0) = True := eq_true (Nat.le_refl _)
          refine b_X11_corner_73_p34 ?_
          simp (disch := omega) only [pk_mul, nI_add, ksub, kdv, kd8, kd64, kd2, kd3, km8, km64, kt8, ke8, ke64, kcl, kin, kle, klt, keq, up_s, up_n, up_u, true_and, and_true, false_implies, true_implies, not_false_eq_true, not_true_eq_false, m1, q4]
          rw [hs, hi, cnf_s (by omega)]
          exact hQ _ _ f0
