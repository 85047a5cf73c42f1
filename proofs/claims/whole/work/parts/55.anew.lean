/-! all taken back -/
def anT : Nat → tw → tw
  | 0, t => t
  | n + 1, t => anT n (udT t)
theorem ud_5 (t : tw) : udT t 0 5 = t 0 5 - 1 := rfl
theorem tok_an : ∀ {n : Nat} {t : tw}, tok t → n ≤ t 0 5 → tok (anT n t) := by
  intro n
  induction n with
  | zero => intro t h _; exact h
  | succ n ih => intro t h h1; exact ih (tok_ud h (by omega)) (by rw [ud_5]; omega)
theorem c_anew {e : am_V} {L : Nat → Nat → Int64} {Q : Int32 → (Nat → Nat → Int32) → Prop} : ∀ (n : Nat) (t : tw) (I : Nat → Nat → Int32) (i : Nat), CT t I → tok t → t 0 5 = n → i + n ≤ 60 → (∀ J, CT (anT n t) J → (∀ a, a ≠ 0 → a ≠ 3 → a ≠ 10 → J a = I a) → J 0 = va_up (I 0) 12 (I 0 12 + nI 1) → Q (nI (i + n)) J) → T_X10_anew_0_p23 e (nI (i + n)) (nI i) I L Q := by
  intro n
  induction n with
  | zero =>
    intro t I i hC hk hn hi hQ
    have q1 : (i + 0 ≤ i) = True := eq_true (Nat.le_refl _)
    refine b_X10_anew_0_p23 ?_
    simp (disch := omega) only [pk_mul, nI_add, ksub, kdv, kd8, kd64, kd2, kd3, km8, km64, kt8, ke8, ke64, kcl, kin, kle, klt, keq, up_s, up_n, up_u, true_and, and_true, false_implies, true_implies, not_false_eq_true, not_true_eq_false, q1]
    refine hQ _ (CTb_c (b := 3) (fun a h7 h8 => ?_) hC) (fun a h1 h2 h3 => ?_) ?_
    · simp (disch := omega) only [pk_mul, nI_add, ksub, kdv, kd8, kd64, kd2, kd3, km8, km64, kt8, ke8, ke64, kcl, kin, kle, klt, keq, up_s, up_n, up_u, true_and, and_true, false_implies, true_implies, not_false_eq_true, not_true_eq_false]
    · simp (disch := omega) only [pk_mul, nI_add, ksub, kdv, kd8, kd64, kd2, kd3, km8, km64, kt8, ke8, ke64, kcl, kin, kle, klt, keq, up_s, up_n, up_u, true_and, and_true, false_implies, true_implies, not_false_eq_true, not_true_eq_false]
    · simp (disch := omega) only [pk_mul, nI_add, ksub, kdv, kd8, kd64, kd2, kd3, km8, km64, kt8, ke8, ke64, kcl, kin, kle, klt, keq, up_s, up_n, up_u, true_and, and_true, false_implies, true_implies, not_false_eq_true, not_true_eq_false]
  | succ n ih =>
    intro t I i hC hk hn hi hQ
    have hC2 := hC
    have hk2 := hk
    obtain ⟨c0, c1, c2, c3, c4, c5, c6, c7, c8, cS, cD, cN, cA, cT, cM, cR, cF, cO, cH, cL⟩ := hC
    obtain ⟨o0, oT, oZ, oY, oD, o9, oN, o28, oB, oX, oE, oF, oA, oH, oU, oV⟩ := hk
    have q1 : (i + (n + 1) ≤ i) = False := eq_false (by omega)
    have q2 : (t 0 5 ≤ 0) = False := eq_false (by omega)
    obtain ⟨u1, u2, u3, u4⟩ := ud_sp hk2 (by omega)
    have e1 := cL (t 0 5 - 1) (by omega)
    have e4 := cR _ u1 u2
    have d8 : t 8 (t 0 5 - 1) ≤ 1 := by omega
    have v1 : (2 * t 7 (t 0 5 - 1) + t 8 (t 0 5 - 1)) / 2 = t 7 (t 0 5 - 1) := by omega
    have v2 : (2 * t 7 (t 0 5 - 1) + t 8 (t 0 5 - 1)) % 2 = t 8 (t 0 5 - 1) := by omega
    have v3 : 2 * t 7 (t 0 5 - 1) + t 8 (t 0 5 - 1) - t 7 (t 0 5 - 1) * 2 = t 8 (t 0 5 - 1) := by omega
    have en : i + (n + 1) = i + 1 + n := by omega
    have fin : ∀ v : Nat, v = (if t 8 (t 0 5 - 1) = 1 then t 3 (t 7 (t 0 5 - 1)) + 1 else t 3 (t 7 (t 0 5 - 1)) - 1) → T_X10_anew_0_p23 e (nI (i + (n + 1))) (nI (i + 1)) (va_up (va_up I 3 (va_up (I 3) 8 (nI (t 0 5 - 1)))) 10 (va_up (I 10) (t 7 (t 0 5 - 1)) (nI v))) L Q := by
      intro v hv
      rw [en]
      refine ih (udT t) _ (i + 1) (CT_ud hC2 hv ?_ ?_ (fun a h1 h2 h3 => ?_)) (tok_ud hk2 (by omega)) (by rw [ud_5]; omega) (by omega) (fun J j1 j2 j3 => ?_)
      · simp (disch := omega) only [pk_mul, nI_add, ksub, kdv, kd8, kd64, kd2, kd3, km8, km64, kt8, ke8, ke64, kcl, kin, kle, klt, keq, up_s, up_n, up_u, true_and, and_true, false_implies, true_implies, not_false_eq_true, not_true_eq_false]
      · simp (disch := omega) only [pk_mul, nI_add, ksub, kdv, kd8, kd64, kd2, kd3, km8, km64, kt8, ke8, ke64, kcl, kin, kle, klt, keq, up_s, up_n, up_u, true_and, and_true, false_implies, true_implies, not_false_eq_true, not_true_eq_false]
      · simp (disch := omega) only [pk_mul, nI_add, ksub, kdv, kd8, kd64, kd2, kd3, km8, km64, kt8, ke8, ke64, kcl, kin, kle, klt, keq, up_s, up_n, up_u, true_and, and_true, false_implies, true_implies, not_false_eq_true, not_true_eq_false]
      · rw [← en]
        refine hQ J j1 (fun a h1 h2 h3 => ?_) ?_
        · rw [j2 a h1 h2 h3]
          simp (disch := omega) only [pk_mul, nI_add, ksub, kdv, kd8, kd64, kd2, kd3, km8, km64, kt8, ke8, ke64, kcl, kin, kle, klt, keq, up_s, up_n, up_u, true_and, and_true, false_implies, true_implies, not_false_eq_true, not_true_eq_false]
        · rw [j3]
          simp (disch := omega) only [pk_mul, nI_add, ksub, kdv, kd8, kd64, kd2, kd3, km8, km64, kt8, ke8, ke64, kcl, kin, kle, klt, keq, up_s, up_n, up_u, true_and, and_true, false_implies, true_implies, not_false_eq_true, not_true_eq_false]
    rcases u3 with ⟨d1, h9⟩ | ⟨d1, h9⟩
    · have q3 : (t 8 (t 0 5 - 1) = 1) = True := eq_true d1
      refine b_X10_anew_0_p23 ?_
      simp (disch := omega) only [pk_mul, nI_add, ksub, kdv, kd8, kd64, kd2, kd3, km8, km64, kt8, ke8, ke64, kcl, kin, kle, klt, keq, up_s, up_n, up_u, true_and, and_true, false_implies, true_implies, not_false_eq_true, not_true_eq_false, c8, q1, q2, e1, v1, v2, v3, e4, q3]
      exact fin _ (if_pos d1).symm
    · have q3 : (t 8 (t 0 5 - 1) = 1) = False := eq_false (by omega)
      refine b_X10_anew_0_p23 ?_
      simp (disch := omega) only [pk_mul, nI_add, ksub, kdv, kd8, kd64, kd2, kd3, km8, km64, kt8, ke8, ke64, kcl, kin, kle, klt, keq, up_s, up_n, up_u, true_and, and_true, false_implies, true_implies, not_false_eq_true, not_true_eq_false, c8, q1, q2, e1, v1, v2, v3, e4, q3, kp1]
      exact fin _ (if_neg (by omega)).symm
theorem m_anew {e : am_V} {L : Nat → Nat → Int64} {Q : Int32 → (Nat → Nat → Int32) → Prop} {w : Int32} : ∀ (n : Nat) (t : tw) (I : Nat → Nat → Int32), MT t I → tok t → t 0 5 = n → (∀ J, MT (anT n t) J → (∀ a, a ≠ 80 → a ≠ 83 → J a = I a) → (∀ k, 5 ≤ k → J 80 k = I 80 k) → (∀ k, 512 ≤ k → J 83 k = I 83 k) → Q w J) → T_X11_anew_73_p22 e w I L Q := by
  intro n
  induction n with
  | zero =>
    intro t I hM hk hn hQ
    have hM2 := hM
    obtain ⟨m0, m1, m2, m3, m4, m5, mS, mU, mL, mF, mO, mH, mA, mK⟩ := hM
    have q1 : (t 0 5 ≤ 0) = True := eq_true (by omega)
    refine b_X11_anew_73_p22 ?_
    simp (disch := omega) only [pk_mul, nI_add, ksub, kdv, kd8, kd64, kd2, kd3, km8, km64, kt8, ke8, ke64, kcl, kin, kle, klt, keq, up_s, up_n, up_u, true_and, and_true, false_implies, true_implies, not_false_eq_true, not_true_eq_false, q1, m5]
    exact hQ _ hM2 (fun _ _ _ => rfl) (fun _ _ => rfl) (fun _ _ => rfl)
  | succ n ih =>
    intro t I hM hk hn hQ
    have hM2 := hM
    have hk2 := hk
    obtain ⟨m0, m1, m2, m3, m4, m5, mS, mU, mL, mF, mO, mH, mA, mK⟩ := hM
    obtain ⟨o0, oT, oZ, oY, oD, o9, oN, o28, oB, oX, oE, oF, oA, oH, oU, oV⟩ := hk
    have q2 : (t 0 5 ≤ 0) = False := eq_false (by omega)
    obtain ⟨u1, u2, u3, u4⟩ := ud_sp hk2 (by omega)
    have e2 := mA (t 0 5 - 1) (by omega)
    have e3 := mK (t 0 5 - 1) (by omega)
    have e5 := mL _ u1
    have fin : ∀ v : Nat, v = (if t 8 (t 0 5 - 1) = 1 then t 3 (t 7 (t 0 5 - 1)) + 1 else t 3 (t 7 (t 0 5 - 1)) - 1) → T_X11_anew_73_p22 e w (va_up (va_up I 80 (va_up (I 80) 4 (nI (t 0 5 - 1)))) 83 (va_up (I 83) (t 7 (t 0 5 - 1)) (nI v))) L Q := by
      intro v hv
      refine ih (udT t) _ (MT_ud hM2 hv ?_ ?_ (fun a h1 h2 h3 h4 => ?_)) (tok_ud hk2 (by omega)) (by rw [ud_5]; omega) (fun J j1 j2 j3 j4 => ?_)
      · simp (disch := omega) only [pk_mul, nI_add, ksub, kdv, kd8, kd64, kd2, kd3, km8, km64, kt8, ke8, ke64, kcl, kin, kle, klt, keq, up_s, up_n, up_u, true_and, and_true, false_implies, true_implies, not_false_eq_true, not_true_eq_false]
      · simp (disch := omega) only [pk_mul, nI_add, ksub, kdv, kd8, kd64, kd2, kd3, km8, km64, kt8, ke8, ke64, kcl, kin, kle, klt, keq, up_s, up_n, up_u, true_and, and_true, false_implies, true_implies, not_false_eq_true, not_true_eq_false]
      · simp (disch := omega) only [pk_mul, nI_add, ksub, kdv, kd8, kd64, kd2, kd3, km8, km64, kt8, ke8, ke64, kcl, kin, kle, klt, keq, up_s, up_n, up_u, true_and, and_true, false_implies, true_implies, not_false_eq_true, not_true_eq_false]
      · refine hQ J j1 (fun a h1 h2 => ?_) (fun k h1 => ?_) (fun k h1 => ?_)
        · rw [j2 a h1 h2]
          simp (disch := omega) only [pk_mul, nI_add, ksub, kdv, kd8, kd64, kd2, kd3, km8, km64, kt8, ke8, ke64, kcl, kin, kle, klt, keq, up_s, up_n, up_u, true_and, and_true, false_implies, true_implies, not_false_eq_true, not_true_eq_false]
        · rw [j3 k h1]
          simp (disch := omega) only [pk_mul, nI_add, ksub, kdv, kd8, kd64, kd2, kd3, km8, km64, kt8, ke8, ke64, kcl, kin, kle, klt, keq, up_s, up_n, up_u, true_and, and_true, false_implies, true_implies, not_false_eq_true, not_true_eq_false]
        · rw [j4 k h1]
          simp (disch := omega) only [pk_mul, nI_add, ksub, kdv, kd8, kd64, kd2, kd3, km8, km64, kt8, ke8, ke64, kcl, kin, kle, klt, keq, up_s, up_n, up_u, true_and, and_true, false_implies, true_implies, not_false_eq_true, not_true_eq_false]
    rcases u3 with ⟨d1, h9⟩ | ⟨d1, h9⟩
    · have q3 : (t 8 (t 0 5 - 1) = 1) = True := eq_true d1
      refine b_X11_anew_73_p22 ?_
      simp (disch := omega) only [pk_mul, nI_add, ksub, kdv, kd8, kd64, kd2, kd3, km8, km64, kt8, ke8, ke64, kcl, kin, kle, klt, keq, up_s, up_n, up_u, true_and, and_true, false_implies, true_implies, not_false_eq_true, not_true_eq_false, m5, q2, e2, e3, e5, q3]
      exact fin _ (if_pos d1).symm
    · have q3 : (t 8 (t 0 5 - 1) = 1) = False := eq_false (by omega)
      refine b_X11_anew_73_p22 ?_
      simp (disch := omega) only [pk_mul, nI_add, ksub, kdv, kd8, kd64, kd2, kd3, km8, km64, kt8, ke8, ke64, kcl, kin, kle, klt, keq, up_s, up_n, up_u, true_and, and_true, false_implies, true_implies, not_false_eq_true, not_true_eq_false, m5, q2, e2, e3, e5, q3, kp1]
      exact fin _ (if_neg (by omega)).symm
theorem r_anew {B : tw → Nat × Nat × (Nat → Nat)} {e : am_V} {I : Nat → Nat → Int32} {L : Nat → Nat → Int64} {t : tw} {m : Nat} {Q : Int32 → Int32 → (Nat → Nat → Int32) → Prop} (hR : Rel B e t I L m) (hm : m < 1000000) (hQ : ∀ r J t', Rel B e t' J L (m + 1) → Q r r J) : C_X10_anew_0 e I L (fun r J => C_X11_anew_73 e J L (fun r' K => Q r r' K)) := by
  have f1 : Rel B e t (va_up I 73 (va_up (I 73) 0 (nI 0))) L (m + 1) := Rel_q hR (fr_73 (fr_refl _ _ _) rfl) (frL_r L) (by omega)
  have hk := hR.1
  have hC := hR.2.1
  have hM := hR.2.2.1
  have hk2 := hk
  have hC2 := hC
  have hM2 := hM
  obtain ⟨c0, c1, c2, c3, c4, c5, c6, c7, c8, cS, cD, cN, cA, cT, cM, cR, cF, cO, cH, cL⟩ := hC
  obtain ⟨m0, m1, m2, m3, m4, m5, mS, mU, mL, mF, mO, mH, mA, mK⟩ := hM
  obtain ⟨o0, oT, oZ, oY, oD, o9, oN, o28, oB, oX, oE, oF, oA, oH, oU, oV⟩ := hk
  by_cases h0 : t 0 0 ≤ 0
  · have q0 := eq_true h0
    have q00 : (t 0 3 ≤ 0) = True := eq_true (by omega)
    refine b_X10_anew_0 ?_
    simp (disch := omega) only [pk_mul, nI_add, ksub, kdv, kd8, kd64, kd2, kd3, km8, km64, kt8, ke8, ke64, kcl, kin, kle, klt, keq, up_s, up_n, up_u, true_and, and_true, false_implies, true_implies, not_false_eq_true, not_true_eq_false, c0, q0]
    refine b_X11_anew_73 ?_
    simp (disch := omega) only [pk_mul, nI_add, ksub, kdv, kd8, kd64, kd2, kd3, km8, km64, kt8, ke8, ke64, kcl, kin, kle, klt, keq, up_s, up_n, up_u, true_and, and_true, false_implies, true_implies, not_false_eq_true, not_true_eq_false, m0, q00]
    exact hQ _ _ _ f1
  · have q0 := eq_false h0
    have q00 : (t 0 3 ≤ 0) = False := eq_false (by omega)
    refine b_X10_anew_0 ?_
    simp (disch := omega) only [pk_mul, nI_add, ksub, kdv, kd8, kd64, kd2, kd3, km8, km64, kt8, ke8, ke64, kcl, kin, kle, klt, keq, up_s, up_n, up_u, true_and, and_true, false_implies, true_implies, not_false_eq_true, not_true_eq_false, c0, c8, q0]
    have z0 : t 0 5 = 0 + t 0 5 := by omega
    rw [z0]
    refine c_anew (t 0 5) t I 0 hC2 hk2 rfl (by omega) (fun J j1 j2 j3 => ?_)
    rw [← z0]
    have k79 : J 79 = I 79 := j2 79 (by decide) (by decide) (by decide)
    have k80 : J 80 = I 80 := j2 80 (by decide) (by decide) (by decide)
    have k73 : J 73 = I 73 := j2 73 (by decide) (by decide) (by decide)
    refine b_X11_anew_73 ?_
    rw [k79, k80, k73]
    simp (disch := omega) only [pk_mul, nI_add, ksub, kdv, kd8, kd64, kd2, kd3, km8, km64, kt8, ke8, ke64, kcl, kin, kle, klt, keq, up_s, up_n, up_u, true_and, and_true, false_implies, true_implies, not_false_eq_true, not_true_eq_false, m0, m5, q00]
    refine m_anew (t 0 5) t _ (MT_w.mpr (MTw_c (fun a h1 h2 => ?_) (MT_w.mp hM2))) hk2 rfl (fun K l1 l2 l3 l4 => ?_)
    · simp (disch := omega) only [pk_mul, nI_add, ksub, kdv, kd8, kd64, kd2, kd3, km8, km64, kt8, ke8, ke64, kcl, kin, kle, klt, keq, up_s, up_n, up_u, true_and, and_true, false_implies, true_implies, not_false_eq_true, not_true_eq_false]
      exact j2 a (by omega) (by omega) (by omega)
    · refine hQ _ _ (anT (t 0 5) t) (Rel_up hR hm (tok_an hk2 (Nat.le_refl _)) (CTb_c (b := 3) (fun a h7 h8 => ?_) j1) l1 ?_ ?_ (fun a h1 h2 h3 h4 => ?_) (fun k h1 => ?_) (fun k h1 => ?_) (fun k h1 => ?_) (fun k h1 => ?_) (fun k h1 => ?_) (fun k h1 => ?_) (fun k h1 => ?_))
      · rw [l2 a (by omega) (by omega)]
        simp (disch := omega) only [pk_mul, nI_add, ksub, kdv, kd8, kd64, kd2, kd3, km8, km64, kt8, ke8, ke64, kcl, kin, kle, klt, keq, up_s, up_n, up_u, true_and, and_true, false_implies, true_implies, not_false_eq_true, not_true_eq_false]
      · rw [l2 0 (by omega) (by omega)]
        simp (disch := omega) only [pk_mul, nI_add, ksub, kdv, kd8, kd64, kd2, kd3, km8, km64, kt8, ke8, ke64, kcl, kin, kle, klt, keq, up_s, up_n, up_u, true_and, and_true, false_implies, true_implies, not_false_eq_true, not_true_eq_false]
        exact j3
      · rw [l2 73 (by omega) (by omega)]
        simp (disch := omega) only [pk_mul, nI_add, ksub, kdv, kd8, kd64, kd2, kd3, km8, km64, kt8, ke8, ke64, kcl, kin, kle, klt, keq, up_s, up_n, up_u, true_and, and_true, false_implies, true_implies, not_false_eq_true, not_true_eq_false]
      · rw [l2 a (by omega) (by omega)]
        simp (disch := omega) only [pk_mul, nI_add, ksub, kdv, kd8, kd64, kd2, kd3, km8, km64, kt8, ke8, ke64, kcl, kin, kle, klt, keq, up_s, up_n, up_u, true_and, and_true, false_implies, true_implies, not_false_eq_true, not_true_eq_false]
        exact j2 a (by omega) (by omega) (by omega)
      · rw [l2 79 (by omega) (by omega)]
        simp (disch := omega) only [pk_mul, nI_add, ksub, kdv, kd8, kd64, kd2, kd3, km8, km64, kt8, ke8, ke64, kcl, kin, kle, klt, keq, up_s, up_n, up_u, true_and, and_true, false_implies, true_implies, not_false_eq_true, not_true_eq_false, k79]
      · rw [l3 k h1]
        simp (disch := omega) only [pk_mul, nI_add, ksub, kdv, kd8, kd64, kd2, kd3, km8, km64, kt8, ke8, ke64, kcl, kin, kle, klt, keq, up_s, up_n, up_u, true_and, and_true, false_implies, true_implies, not_false_eq_true, not_true_eq_false, k80]
      · rw [l2 81 (by omega) (by omega)]
        simp (disch := omega) only [pk_mul, nI_add, ksub, kdv, kd8, kd64, kd2, kd3, km8, km64, kt8, ke8, ke64, kcl, kin, kle, klt, keq, up_s, up_n, up_u, true_and, and_true, false_implies, true_implies, not_false_eq_true, not_true_eq_false]
        rw [j2 81 (by omega) (by omega) (by omega)]
      · rw [l2 82 (by omega) (by omega)]
        simp (disch := omega) only [pk_mul, nI_add, ksub, kdv, kd8, kd64, kd2, kd3, km8, km64, kt8, ke8, ke64, kcl, kin, kle, klt, keq, up_s, up_n, up_u, true_and, and_true, false_implies, true_implies, not_false_eq_true, not_true_eq_false]
        rw [j2 82 (by omega) (by omega) (by omega)]
      · rw [l4 k h1]
        simp (disch := omega) only [pk_mul, nI_add, ksub, kdv, kd8, kd64, kd2, kd3, km8, km64, kt8, ke8, ke64, kcl, kin, kle, klt, keq, up_s, up_n, up_u, true_and, and_true, false_implies, true_implies, not_false_eq_true, not_true_eq_false]
        rw [j2 83 (by omega) (by omega) (by omega)]
      · rw [l2 84 (by omega) (by omega)]
        simp (disch := omega) only [pk_mul, nI_add, ksub, kdv, kd8, kd64, kd2, kd3, km8, km64, kt8, ke8, ke64, kcl, kin, kle, klt, keq, up_s, up_n, up_u, true_and, and_true, false_implies, true_implies, not_false_eq_true, not_true_eq_false]
        rw [j2 84 (by omega) (by omega) (by omega)]
      · rw [l2 85 (by omega) (by omega)]
        simp (disch := omega) only [pk_mul, nI_add, ksub, kdv, kd8, kd64, kd2, kd3, km8, km64, kt8, ke8, ke64, kcl, kin, kle, klt, keq, up_s, up_n, up_u, true_and, and_true, false_implies, true_implies, not_false_eq_true, not_true_eq_false]
        rw [j2 85 (by omega) (by omega) (by omega)]
