/-! slots: rows opened, written -/
theorem SL_w {I : Nat → Nat → Int32} {L : Nat → Nat → Int64} {x n : Nat} {v : Int64} (h : SL I L) (hx : x < 4) (hn : n < 60) : SL I (va_up (va_up L (30 + 2 * x) (va_up (L (30 + 2 * x)) n v)) 76 (va_up (L 76) (60 * x + n) v)) := by
  intro s hs
  rcases h s hs with h1 | ⟨w, c, hw, hc, a1, a2, a3, a4, a5, a6⟩
  · exact Or.inl h1
  · refine Or.inr ⟨w, c, hw, hc, a1, a2, a3, a4, a5, fun k hk => ?_⟩
    rw [up_n (by omega), up_s]
    by_cases he : s = x
    · rw [he, up_s]
      by_cases hkn : k = n
      · rw [hkn, up_s, up_s]
      · rw [up_n hkn, up_n (by omega), ← he]
        exact a6 k hk
    · rw [up_n (by omega), up_n (by omega)]
      exact a6 k hk
theorem Rel_L {B : tw → Nat × Nat × (Nat → Nat)} {e : am_V} {t : tw} {I : Nat → Nat → Int32} {L M : Nat → Nat → Int64} {m : Nat} (h : Rel B e t I L m) (hS : SL I M) : Rel B e t I M m := ⟨h.1, h.2.1, h.2.2.1, h.2.2.2.1, hS, h.2.2.2.2.2.1, h.2.2.2.2.2.2⟩
theorem n10 : ((1 : Nat) = 0) = False := eq_false (by decide)
theorem w_write_0 {B : tw → Nat × Nat × (Nat → Nat)} {e : am_V} {I : Nat → Nat → Int32} {L : Nat → Nat → Int64} {t : tw} {m : Nat} {v2 : Int32} {v3 : Int64} {Q : Int32 → Int32 → (Nat → Nat → Int32) → (Nat → Nat → Int64) → Prop} (hR : Rel B e t I L m) (hQ : ∀ r J M, Rel B e t J M m → Q r r J M) : C_X10_write_0 e (nI 0) v2 v3 I L (fun r J M => C_X11_write_73 e (nI 0) v2 v3 J M (fun r' K N => Q r r' K N)) := by
  have f1 : Rel B e t (va_up I 73 (va_up (I 73) 0 (nI 0))) L m := Rel_q hR (fr_73 (fr_refl _ _ _) rfl) (frL_r L) (Nat.le_refl _)
  have hS := f1.2.2.2.2.1
  have gx : (0 ≤ 3) = True := eq_true (by decide)
  rcases hR.2.2.2.2.1 0 (by decide) with ⟨a1, a2⟩ | ⟨w, c, hw, hc, a1, a2, a3, a4, a5, a6⟩
  · have b1 : I 29 1 = nI 0 := a1
    have q1 : (nI 0 = nI 0) = True := eq_true rfl
    have q2 : ((-1 : Int32) = (-1 : Int32)) = True := eq_true rfl
    refine b_X10_write_0_c0 ?_
    rw [b1]
    simp only [q1, true_implies, not_true_eq_false, false_implies, and_true]
    refine b_X11_write_73 ?_
    simp (disch := omega) only [pk_mul, nI_add, ksub, kdv, kd8, kd64, kd2, kd3, km8, km64, kt8, ke8, ke64, kcl, kin, kle, klt, keq, up_s, up_n, up_u, true_and, and_true, false_implies, true_implies, not_false_eq_true, not_true_eq_false, kzl, kl3, knl, gx, a2, q2]
    exact hQ _ _ _ f1
  · have b1 : I 29 1 = nI 1 := a1
    have b2 : I 29 2 = nI w := a2
    have b3 : I 29 3 = nI c := a3
    have q2 := km1 (n := w) (by omega)
    rcases crs v2 c (by omega) with g | ⟨g, d⟩ | ⟨n, hn, rfl⟩
    · refine b_X10_write_0_c0 ?_
      simp (disch := omega) only [pk_mul, nI_add, ksub, kdv, kd8, kd64, kd2, kd3, km8, km64, kt8, ke8, ke64, kcl, kin, kle, klt, keq, up_s, up_n, up_u, true_and, and_true, false_implies, true_implies, not_false_eq_true, not_true_eq_false, b1, n10, g]
      refine b_X11_write_73 ?_
      simp (disch := omega) only [pk_mul, nI_add, ksub, kdv, kd8, kd64, kd2, kd3, km8, km64, kt8, ke8, ke64, kcl, kin, kle, klt, keq, up_s, up_n, up_u, true_and, and_true, false_implies, true_implies, not_false_eq_true, not_true_eq_false, kzl, kl3, knl, gx, a4, q2, g]
      exact hQ _ _ _ f1
    · have nl : ¬ v2 < nI c := fun h => by
        rw [Int32.lt_iff_toInt_lt] at h
        rw [Int32.le_iff_toInt_le] at d
        omega
      have hz := (kcz1 (c := c) (by omega) (x := v2)).mpr d
      refine b_X10_write_0_c0 ?_
      simp (disch := omega) only [pk_mul, nI_add, ksub, kdv, kd8, kd64, kd2, kd3, km8, km64, kt8, ke8, ke64, kcl, kin, kle, klt, keq, up_s, up_n, up_u, true_and, and_true, false_implies, true_implies, not_false_eq_true, not_true_eq_false, b1, b3, n10, g, nl]
      refine b_X11_write_73 ?_
      simp (disch := omega) only [pk_mul, nI_add, ksub, kdv, kd8, kd64, kd2, kd3, km8, km64, kt8, ke8, ke64, kcl, kin, kle, klt, keq, up_s, up_n, up_u, true_and, and_true, false_implies, true_implies, not_false_eq_true, not_true_eq_false, kzl, kl3, knl, gx, a4, a5, q2, g]
      rw [eq_true hz]
      exact ⟨fun _ => hQ _ _ _ f1, fun h => absurd trivial h⟩
    · have gn : (n < c) = True := eq_true hn
      have gn2 : (c ≤ n) = False := eq_false (by omega)
      have : w = 0 ∨ w = 1 ∨ w = 2 ∨ w = 3 := by omega
      have n21 : ((2 : Nat) = 1) = False := eq_false (by decide)
      have n20 : ((2 : Nat) = 0) = False := eq_false (by decide)
      have n31 : ((3 : Nat) = 1) = False := eq_false (by decide)
      have n30 : ((3 : Nat) = 0) = False := eq_false (by decide)
      have n32 : ((3 : Nat) = 2) = False := eq_false (by decide)
      have n00 : ((0 : Nat) = 0) = True := eq_true rfl
      have n22 : ((2 : Nat) = 2) = True := eq_true rfl
      have fin : ∀ v : Int64, Q (nI 0) (nI 0) (va_up I 73 (va_up (I 73) 0 (nI 0))) (va_up (va_up L 30 (va_up (L 30) n v)) 76 (va_up (L 76) (60 * 0 + n) v)) := fun v => hQ _ _ _ (Rel_L f1 (SL_w (x := 0) hS (by decide) (by omega)))
      rcases this with rfl | rfl | rfl | rfl
      · refine b_X10_write_0_c0 ?_
        simp (disch := omega) only [pk_mul, nI_add, ksub, kdv, kd8, kd64, kd2, kd3, km8, km64, kt8, ke8, ke64, kcl, kin, kle, klt, keq, up_s, up_n, up_u, true_and, and_true, false_implies, true_implies, not_false_eq_true, not_true_eq_false, b1, b2, b3, n10, gn, knl, ti0, or_self, false_or, or_false]
        refine b_X11_write_73 ?_
        simp (disch := omega) only [pk_mul, nI_add, ksub, kdv, kd8, kd64, kd2, kd3, km8, km64, kt8, ke8, ke64, kcl, kin, kle, klt, keq, up_s, up_n, up_u, true_and, and_true, false_implies, true_implies, not_false_eq_true, not_true_eq_false, kzl, kl3, kcz1, kcz3, knl, gx, a4, a5, q2, gn2, n00]
        exact fin _
      · refine b_X10_write_0_c0 ?_
        simp (disch := omega) only [pk_mul, nI_add, ksub, kdv, kd8, kd64, kd2, kd3, km8, km64, kt8, ke8, ke64, kcl, kin, kle, klt, keq, up_s, up_n, up_u, true_and, and_true, false_implies, true_implies, not_false_eq_true, not_true_eq_false, b1, b2, b3, n10, gn, knl, ti1, or_self, false_or, or_false]
        refine b_X11_write_73 ?_
        simp (disch := omega) only [pk_mul, nI_add, ksub, kdv, kd8, kd64, kd2, kd3, km8, km64, kt8, ke8, ke64, kcl, kin, kle, klt, keq, up_s, up_n, up_u, true_and, and_true, false_implies, true_implies, not_false_eq_true, not_true_eq_false, kzl, kl3, kcz1, kcz3, knl, gx, a4, a5, q2, gn2, n10, k11]
        exact fin _
      · refine b_X10_write_0_c0 ?_
        simp (disch := omega) only [pk_mul, nI_add, ksub, kdv, kd8, kd64, kd2, kd3, km8, km64, kt8, ke8, ke64, kcl, kin, kle, klt, keq, up_s, up_n, up_u, true_and, and_true, false_implies, true_implies, not_false_eq_true, not_true_eq_false, b1, b2, b3, n10, gn, knl, ti2, or_self, false_or, or_false]
        refine b_X11_write_73 ?_
        simp (disch := omega) only [pk_mul, nI_add, ksub, kdv, kd8, kd64, kd2, kd3, km8, km64, kt8, ke8, ke64, kcl, kin, kle, klt, keq, up_s, up_n, up_u, true_and, and_true, false_implies, true_implies, not_false_eq_true, not_true_eq_false, kzl, kl3, kcz1, kcz3, knl, gx, a4, a5, q2, gn2, n20, n21, n22]
        exact fin _
      · refine b_X10_write_0_c0 ?_
        simp (disch := omega) only [pk_mul, nI_add, ksub, kdv, kd8, kd64, kd2, kd3, km8, km64, kt8, ke8, ke64, kcl, kin, kle, klt, keq, up_s, up_n, up_u, true_and, and_true, false_implies, true_implies, not_false_eq_true, not_true_eq_false, b1, b2, b3, n10, gn, knl, ti3, or_self, false_or, or_true]
        refine b_X11_write_73 ?_
        simp (disch := omega) only [pk_mul, nI_add, ksub, kdv, kd8, kd64, kd2, kd3, km8, km64, kt8, ke8, ke64, kcl, kin, kle, klt, keq, up_s, up_n, up_u, true_and, and_true, false_implies, true_implies, not_false_eq_true, not_true_eq_false, kzl, kl3, kcz1, kcz3, knl, gx, a4, a5, q2, gn2, n30, n31, n32]
        exact fin _
theorem w_write_1 {B : tw → Nat × Nat × (Nat → Nat)} {e : am_V} {I : Nat → Nat → Int32} {L : Nat → Nat → Int64} {t : tw} {m : Nat} {v2 : Int32} {v3 : Int64} {Q : Int32 → Int32 → (Nat → Nat → Int32) → (Nat → Nat → Int64) → Prop} (hR : Rel B e t I L m) (hQ : ∀ r J M, Rel B e t J M m → Q r r J M) : C_X10_write_0 e (nI 1) v2 v3 I L (fun r J M => C_X11_write_73 e (nI 1) v2 v3 J M (fun r' K N => Q r r' K N)) := by
  have f1 : Rel B e t (va_up I 73 (va_up (I 73) 0 (nI 0))) L m := Rel_q hR (fr_73 (fr_refl _ _ _) rfl) (frL_r L) (Nat.le_refl _)
  have hS := f1.2.2.2.2.1
  have gx : (1 ≤ 3) = True := eq_true (by decide)
  rcases hR.2.2.2.2.1 1 (by decide) with ⟨a1, a2⟩ | ⟨w, c, hw, hc, a1, a2, a3, a4, a5, a6⟩
  · have b1 : I 31 1 = nI 0 := a1
    have q1 : (nI 0 = nI 0) = True := eq_true rfl
    have q2 : ((-1 : Int32) = (-1 : Int32)) = True := eq_true rfl
    refine b_X10_write_0_c1 ?_
    rw [b1]
    simp only [q1, true_implies, not_true_eq_false, false_implies, and_true]
    refine b_X11_write_73 ?_
    simp (disch := omega) only [pk_mul, nI_add, ksub, kdv, kd8, kd64, kd2, kd3, km8, km64, kt8, ke8, ke64, kcl, kin, kle, klt, keq, up_s, up_n, up_u, true_and, and_true, false_implies, true_implies, not_false_eq_true, not_true_eq_false, kzl, kl3, knl, gx, a2, q2]
    exact hQ _ _ _ f1
  · have b1 : I 31 1 = nI 1 := a1
    have b2 : I 31 2 = nI w := a2
    have b3 : I 31 3 = nI c := a3
    have q2 := km1 (n := w) (by omega)
    rcases crs v2 c (by omega) with g | ⟨g, d⟩ | ⟨n, hn, rfl⟩
    · refine b_X10_write_0_c1 ?_
      simp (disch := omega) only [pk_mul, nI_add, ksub, kdv, kd8, kd64, kd2, kd3, km8, km64, kt8, ke8, ke64, kcl, kin, kle, klt, keq, up_s, up_n, up_u, true_and, and_true, false_implies, true_implies, not_false_eq_true, not_true_eq_false, b1, n10, g]
      refine b_X11_write_73 ?_
      simp (disch := omega) only [pk_mul, nI_add, ksub, kdv, kd8, kd64, kd2, kd3, km8, km64, kt8, ke8, ke64, kcl, kin, kle, klt, keq, up_s, up_n, up_u, true_and, and_true, false_implies, true_implies, not_false_eq_true, not_true_eq_false, kzl, kl3, knl, gx, a4, q2, g]
      exact hQ _ _ _ f1
    · have nl : ¬ v2 < nI c := fun h => by
        rw [Int32.lt_iff_toInt_lt] at h
        rw [Int32.le_iff_toInt_le] at d
        omega
      have hz := (kcz1 (c := c) (by omega) (x := v2)).mpr d
      refine b_X10_write_0_c1 ?_
      simp (disch := omega) only [pk_mul, nI_add, ksub, kdv, kd8, kd64, kd2, kd3, km8, km64, kt8, ke8, ke64, kcl, kin, kle, klt, keq, up_s, up_n, up_u, true_and, and_true, false_implies, true_implies, not_false_eq_true, not_true_eq_false, b1, b3, n10, g, nl]
      refine b_X11_write_73 ?_
      simp (disch := omega) only [pk_mul, nI_add, ksub, kdv, kd8, kd64, kd2, kd3, km8, km64, kt8, ke8, ke64, kcl, kin, kle, klt, keq, up_s, up_n, up_u, true_and, and_true, false_implies, true_implies, not_false_eq_true, not_true_eq_false, kzl, kl3, knl, gx, a4, a5, q2, g]
      rw [eq_true hz]
      exact ⟨fun _ => hQ _ _ _ f1, fun h => absurd trivial h⟩
    · have gn : (n < c) = True := eq_true hn
      have gn2 : (c ≤ n) = False := eq_false (by omega)
      have : w = 0 ∨ w = 1 ∨ w = 2 ∨ w = 3 := by omega
      have n21 : ((2 : Nat) = 1) = False := eq_false (by decide)
      have n20 : ((2 : Nat) = 0) = False := eq_false (by decide)
      have n31 : ((3 : Nat) = 1) = False := eq_false (by decide)
      have n30 : ((3 : Nat) = 0) = False := eq_false (by decide)
      have n32 : ((3 : Nat) = 2) = False := eq_false (by decide)
      have n00 : ((0 : Nat) = 0) = True := eq_true rfl
      have n22 : ((2 : Nat) = 2) = True := eq_true rfl
      have fin : ∀ v : Int64, Q (nI 0) (nI 0) (va_up I 73 (va_up (I 73) 0 (nI 0))) (va_up (va_up L 32 (va_up (L 32) n v)) 76 (va_up (L 76) (60 * 1 + n) v)) := fun v => hQ _ _ _ (Rel_L f1 (SL_w (x := 1) hS (by decide) (by omega)))
      rcases this with rfl | rfl | rfl | rfl
      · refine b_X10_write_0_c1 ?_
        simp (disch := omega) only [pk_mul, nI_add, ksub, kdv, kd8, kd64, kd2, kd3, km8, km64, kt8, ke8, ke64, kcl, kin, kle, klt, keq, up_s, up_n, up_u, true_and, and_true, false_implies, true_implies, not_false_eq_true, not_true_eq_false, b1, b2, b3, n10, gn, knl, ti0, or_self, false_or, or_false]
        refine b_X11_write_73 ?_
        simp (disch := omega) only [pk_mul, nI_add, ksub, kdv, kd8, kd64, kd2, kd3, km8, km64, kt8, ke8, ke64, kcl, kin, kle, klt, keq, up_s, up_n, up_u, true_and, and_true, false_implies, true_implies, not_false_eq_true, not_true_eq_false, kzl, kl3, kcz1, kcz3, knl, gx, a4, a5, q2, gn2, n00]
        exact fin _
      · refine b_X10_write_0_c1 ?_
        simp (disch := omega) only [pk_mul, nI_add, ksub, kdv, kd8, kd64, kd2, kd3, km8, km64, kt8, ke8, ke64, kcl, kin, kle, klt, keq, up_s, up_n, up_u, true_and, and_true, false_implies, true_implies, not_false_eq_true, not_true_eq_false, b1, b2, b3, n10, gn, knl, ti1, or_self, false_or, or_false]
        refine b_X11_write_73 ?_
        simp (disch := omega) only [pk_mul, nI_add, ksub, kdv, kd8, kd64, kd2, kd3, km8, km64, kt8, ke8, ke64, kcl, kin, kle, klt, keq, up_s, up_n, up_u, true_and, and_true, false_implies, true_implies, not_false_eq_true, not_true_eq_false, kzl, kl3, kcz1, kcz3, knl, gx, a4, a5, q2, gn2, n10, k11]
        exact fin _
      · refine b_X10_write_0_c1 ?_
        simp (disch := omega) only [pk_mul, nI_add, ksub, kdv, kd8, kd64, kd2, kd3, km8, km64, kt8, ke8, ke64, kcl, kin, kle, klt, keq, up_s, up_n, up_u, true_and, and_true, false_implies, true_implies, not_false_eq_true, not_true_eq_false, b1, b2, b3, n10, gn, knl, ti2, or_self, false_or, or_false]
        refine b_X11_write_73 ?_
        simp (disch := omega) only [pk_mul, nI_add, ksub, kdv, kd8, kd64, kd2, kd3, km8, km64, kt8, ke8, ke64, kcl, kin, kle, klt, keq, up_s, up_n, up_u, true_and, and_true, false_implies, true_implies, not_false_eq_true, not_true_eq_false, kzl, kl3, kcz1, kcz3, knl, gx, a4, a5, q2, gn2, n20, n21, n22]
        exact fin _
      · refine b_X10_write_0_c1 ?_
        simp (disch := omega) only [pk_mul, nI_add, ksub, kdv, kd8, kd64, kd2, kd3, km8, km64, kt8, ke8, ke64, kcl, kin, kle, klt, keq, up_s, up_n, up_u, true_and, and_true, false_implies, true_implies, not_false_eq_true, not_true_eq_false, b1, b2, b3, n10, gn, knl, ti3, or_self, false_or, or_true]
        refine b_X11_write_73 ?_
        simp (disch := omega) only [pk_mul, nI_add, ksub, kdv, kd8, kd64, kd2, kd3, km8, km64, kt8, ke8, ke64, kcl, kin, kle, klt, keq, up_s, up_n, up_u, true_and, and_true, false_implies, true_implies, not_false_eq_true, not_true_eq_false, kzl, kl3, kcz1, kcz3, knl, gx, a4, a5, q2, gn2, n30, n31, n32]
        exact fin _
theorem w_write_2 {B : tw → Nat × Nat × (Nat → Nat)} {e : am_V} {I : Nat → Nat → Int32} {L : Nat → Nat → Int64} {t : tw} {m : Nat} {v2 : Int32} {v3 : Int64} {Q : Int32 → Int32 → (Nat → Nat → Int32) → (Nat → Nat → Int64) → Prop} (hR : Rel B e t I L m) (hQ : ∀ r J M, Rel B e t J M m → Q r r J M) : C_X10_write_0 e (nI 2) v2 v3 I L (fun r J M => C_X11_write_73 e (nI 2) v2 v3 J M (fun r' K N => Q r r' K N)) := by
  have f1 : Rel B e t (va_up I 73 (va_up (I 73) 0 (nI 0))) L m := Rel_q hR (fr_73 (fr_refl _ _ _) rfl) (frL_r L) (Nat.le_refl _)
  have hS := f1.2.2.2.2.1
  have gx : (2 ≤ 3) = True := eq_true (by decide)
  rcases hR.2.2.2.2.1 2 (by decide) with ⟨a1, a2⟩ | ⟨w, c, hw, hc, a1, a2, a3, a4, a5, a6⟩
  · have b1 : I 33 1 = nI 0 := a1
    have q1 : (nI 0 = nI 0) = True := eq_true rfl
    have q2 : ((-1 : Int32) = (-1 : Int32)) = True := eq_true rfl
    refine b_X10_write_0_c2 ?_
    rw [b1]
    simp only [q1, true_implies, not_true_eq_false, false_implies, and_true]
    refine b_X11_write_73 ?_
    simp (disch := omega) only [pk_mul, nI_add, ksub, kdv, kd8, kd64, kd2, kd3, km8, km64, kt8, ke8, ke64, kcl, kin, kle, klt, keq, up_s, up_n, up_u, true_and, and_true, false_implies, true_implies, not_false_eq_true, not_true_eq_false, kzl, kl3, knl, gx, a2, q2]
    exact hQ _ _ _ f1
  · have b1 : I 33 1 = nI 1 := a1
    have b2 : I 33 2 = nI w := a2
    have b3 : I 33 3 = nI c := a3
    have q2 := km1 (n := w) (by omega)
    rcases crs v2 c (by omega) with g | ⟨g, d⟩ | ⟨n, hn, rfl⟩
    · refine b_X10_write_0_c2 ?_
      simp (disch := omega) only [pk_mul, nI_add, ksub, kdv, kd8, kd64, kd2, kd3, km8, km64, kt8, ke8, ke64, kcl, kin, kle, klt, keq, up_s, up_n, up_u, true_and, and_true, false_implies, true_implies, not_false_eq_true, not_true_eq_false, b1, n10, g]
      refine b_X11_write_73 ?_
      simp (disch := omega) only [pk_mul, nI_add, ksub, kdv, kd8, kd64, kd2, kd3, km8, km64, kt8, ke8, ke64, kcl, kin, kle, klt, keq, up_s, up_n, up_u, true_and, and_true, false_implies, true_implies, not_false_eq_true, not_true_eq_false, kzl, kl3, knl, gx, a4, q2, g]
      exact hQ _ _ _ f1
    · have nl : ¬ v2 < nI c := fun h => by
        rw [Int32.lt_iff_toInt_lt] at h
        rw [Int32.le_iff_toInt_le] at d
        omega
      have hz := (kcz1 (c := c) (by omega) (x := v2)).mpr d
      refine b_X10_write_0_c2 ?_
      simp (disch := omega) only [pk_mul, nI_add, ksub, kdv, kd8, kd64, kd2, kd3, km8, km64, kt8, ke8, ke64, kcl, kin, kle, klt, keq, up_s, up_n, up_u, true_and, and_true, false_implies, true_implies, not_false_eq_true, not_true_eq_false, b1, b3, n10, g, nl]
      refine b_X11_write_73 ?_
      simp (disch := omega) only [pk_mul, nI_add, ksub, kdv, kd8, kd64, kd2, kd3, km8, km64, kt8, ke8, ke64, kcl, kin, kle, klt, keq, up_s, up_n, up_u, true_and, and_true, false_implies, true_implies, not_false_eq_true, not_true_eq_false, kzl, kl3, knl, gx, a4, a5, q2, g]
      rw [eq_true hz]
      exact ⟨fun _ => hQ _ _ _ f1, fun h => absurd trivial h⟩
    · have gn : (n < c) = True := eq_true hn
      have gn2 : (c ≤ n) = False := eq_false (by omega)
      have : w = 0 ∨ w = 1 ∨ w = 2 ∨ w = 3 := by omega
      have n21 : ((2 : Nat) = 1) = False := eq_false (by decide)
      have n20 : ((2 : Nat) = 0) = False := eq_false (by decide)
      have n31 : ((3 : Nat) = 1) = False := eq_false (by decide)
      have n30 : ((3 : Nat) = 0) = False := eq_false (by decide)
      have n32 : ((3 : Nat) = 2) = False := eq_false (by decide)
      have n00 : ((0 : Nat) = 0) = True := eq_true rfl
      have n22 : ((2 : Nat) = 2) = True := eq_true rfl
      have fin : ∀ v : Int64, Q (nI 0) (nI 0) (va_up I 73 (va_up (I 73) 0 (nI 0))) (va_up (va_up L 34 (va_up (L 34) n v)) 76 (va_up (L 76) (60 * 2 + n) v)) := fun v => hQ _ _ _ (Rel_L f1 (SL_w (x := 2) hS (by decide) (by omega)))
      rcases this with rfl | rfl | rfl | rfl
      · refine b_X10_write_0_c2 ?_
        simp (disch := omega) only [pk_mul, nI_add, ksub, kdv, kd8, kd64, kd2, kd3, km8, km64, kt8, ke8, ke64, kcl, kin, kle, klt, keq, up_s, up_n, up_u, true_and, and_true, false_implies, true_implies, not_false_eq_true, not_true_eq_false, b1, b2, b3, n10, gn, knl, ti0, or_self, false_or, or_false]
        refine b_X11_write_73 ?_
        simp (disch := omega) only [pk_mul, nI_add, ksub, kdv, kd8, kd64, kd2, kd3, km8, km64, kt8, ke8, ke64, kcl, kin, kle, klt, keq, up_s, up_n, up_u, true_and, and_true, false_implies, true_implies, not_false_eq_true, not_true_eq_false, kzl, kl3, kcz1, kcz3, knl, gx, a4, a5, q2, gn2, n00]
        exact fin _
      · refine b_X10_write_0_c2 ?_
        simp (disch := omega) only [pk_mul, nI_add, ksub, kdv, kd8, kd64, kd2, kd3, km8, km64, kt8, ke8, ke64, kcl, kin, kle, klt, keq, up_s, up_n, up_u, true_and, and_true, false_implies, true_implies, not_false_eq_true, not_true_eq_false, b1, b2, b3, n10, gn, knl, ti1, or_self, false_or, or_false]
        refine b_X11_write_73 ?_
        simp (disch := omega) only [pk_mul, nI_add, ksub, kdv, kd8, kd64, kd2, kd3, km8, km64, kt8, ke8, ke64, kcl, kin, kle, klt, keq, up_s, up_n, up_u, true_and, and_true, false_implies, true_implies, not_false_eq_true, not_true_eq_false, kzl, kl3, kcz1, kcz3, knl, gx, a4, a5, q2, gn2, n10, k11]
        exact fin _
      · refine b_X10_write_0_c2 ?_
        simp (disch := omega) only [pk_mul, nI_add, ksub, kdv, kd8, kd64, kd2, kd3, km8, km64, kt8, ke8, ke64, kcl, kin, kle, klt, keq, up_s, up_n, up_u, true_and, and_true, false_implies, true_implies, not_false_eq_true, not_true_eq_false, b1, b2, b3, n10, gn, knl, ti2, or_self, false_or, or_false]
        refine b_X11_write_73 ?_
        simp (disch := omega) only [pk_mul, nI_add, ksub, kdv, kd8, kd64, kd2, kd3, km8, km64, kt8, ke8, ke64, kcl, kin, kle, klt, keq, up_s, up_n, up_u, true_and, and_true, false_implies, true_implies, not_false_eq_true, not_true_eq_false, kzl, kl3, kcz1, kcz3, knl, gx, a4, a5, q2, gn2, n20, n21, n22]
        exact fin _
      · refine b_X10_write_0_c2 ?_
        simp (disch := omega) only [pk_mul, nI_add, ksub, kdv, kd8, kd64, kd2, kd3, km8, km64, kt8, ke8, ke64, kcl, kin, kle, klt, keq, up_s, up_n, up_u, true_and, and_true, false_implies, true_implies, not_false_eq_true, not_true_eq_false, b1, b2, b3, n10, gn, knl, ti3, or_self, false_or, or_true]
        refine b_X11_write_73 ?_
        simp (disch := omega) only [pk_mul, nI_add, ksub, kdv, kd8, kd64, kd2, kd3, km8, km64, kt8, ke8, ke64, kcl, kin, kle, klt, keq, up_s, up_n, up_u, true_and, and_true, false_implies, true_implies, not_false_eq_true, not_true_eq_false, kzl, kl3, kcz1, kcz3, knl, gx, a4, a5, q2, gn2, n30, n31, n32]
        exact fin _
theorem w_write_3 {B : tw → Nat × Nat × (Nat → Nat)} {e : am_V} {I : Nat → Nat → Int32} {L : Nat → Nat → Int64} {t : tw} {m : Nat} {v2 : Int32} {v3 : Int64} {Q : Int32 → Int32 → (Nat → Nat → Int32) → (Nat → Nat → Int64) → Prop} (hR : Rel B e t I L m) (hQ : ∀ r J M, Rel B e t J M m → Q r r J M) : C_X10_write_0 e (nI 3) v2 v3 I L (fun r J M => C_X11_write_73 e (nI 3) v2 v3 J M (fun r' K N => Q r r' K N)) := by
  have f1 : Rel B e t (va_up I 73 (va_up (I 73) 0 (nI 0))) L m := Rel_q hR (fr_73 (fr_refl _ _ _) rfl) (frL_r L) (Nat.le_refl _)
  have hS := f1.2.2.2.2.1
  have gx : (3 ≤ 3) = True := eq_true (by decide)
  rcases hR.2.2.2.2.1 3 (by decide) with ⟨a1, a2⟩ | ⟨w, c, hw, hc, a1, a2, a3, a4, a5, a6⟩
  · have b1 : I 35 1 = nI 0 := a1
    have q1 : (nI 0 = nI 0) = True := eq_true rfl
    have q2 : ((-1 : Int32) = (-1 : Int32)) = True := eq_true rfl
    refine b_X10_write_0_c3 ?_
    rw [b1]
    simp only [q1, true_implies, not_true_eq_false, false_implies, and_true]
    refine b_X11_write_73 ?_
    simp (disch := omega) only [pk_mul, nI_add, ksub, kdv, kd8, kd64, kd2, kd3, km8, km64, kt8, ke8, ke64, kcl, kin, kle, klt, keq, up_s, up_n, up_u, true_and, and_true, false_implies, true_implies, not_false_eq_true, not_true_eq_false, kzl, kl3, knl, gx, a2, q2]
    exact hQ _ _ _ f1
  · have b1 : I 35 1 = nI 1 := a1
    have b2 : I 35 2 = nI w := a2
    have b3 : I 35 3 = nI c := a3
    have q2 := km1 (n := w) (by omega)
    rcases crs v2 c (by omega) with g | ⟨g, d⟩ | ⟨n, hn, rfl⟩
    · refine b_X10_write_0_c3 ?_
      simp (disch := omega) only [pk_mul, nI_add, ksub, kdv, kd8, kd64, kd2, kd3, km8, km64, kt8, ke8, ke64, kcl, kin, kle, klt, keq, up_s, up_n, up_u, true_and, and_true, false_implies, true_implies, not_false_eq_true, not_true_eq_false, b1, n10, g]
      refine b_X11_write_73 ?_
      simp (disch := omega) only [pk_mul, nI_add, ksub, kdv, kd8, kd64, kd2, kd3, km8, km64, kt8, ke8, ke64, kcl, kin, kle, klt, keq, up_s, up_n, up_u, true_and, and_true, false_implies, true_implies, not_false_eq_true, not_true_eq_false, kzl, kl3, knl, gx, a4, q2, g]
      exact hQ _ _ _ f1
    · have nl : ¬ v2 < nI c := fun h => by
        rw [Int32.lt_iff_toInt_lt] at h
        rw [Int32.le_iff_toInt_le] at d
        omega
      have hz := (kcz1 (c := c) (by omega) (x := v2)).mpr d
      refine b_X10_write_0_c3 ?_
      simp (disch := omega) only [pk_mul, nI_add, ksub, kdv, kd8, kd64, kd2, kd3, km8, km64, kt8, ke8, ke64, kcl, kin, kle, klt, keq, up_s, up_n, up_u, true_and, and_true, false_implies, true_implies, not_false_eq_true, not_true_eq_false, b1, b3, n10, g, nl]
      refine b_X11_write_73 ?_
      simp (disch := omega) only [pk_mul, nI_add, ksub, kdv, kd8, kd64, kd2, kd3, km8, km64, kt8, ke8, ke64, kcl, kin, kle, klt, keq, up_s, up_n, up_u, true_and, and_true, false_implies, true_implies, not_false_eq_true, not_true_eq_false, kzl, kl3, knl, gx, a4, a5, q2, g]
      rw [eq_true hz]
      exact ⟨fun _ => hQ _ _ _ f1, fun h => absurd trivial h⟩
    · have gn : (n < c) = True := eq_true hn
      have gn2 : (c ≤ n) = False := eq_false (by omega)
      have : w = 0 ∨ w = 1 ∨ w = 2 ∨ w = 3 := by omega
      have n21 : ((2 : Nat) = 1) = False := eq_false (by decide)
      have n20 : ((2 : Nat) = 0) = False := eq_false (by decide)
      have n31 : ((3 : Nat) = 1) = False := eq_false (by decide)
      have n30 : ((3 : Nat) = 0) = False := eq_false (by decide)
      have n32 : ((3 : Nat) = 2) = False := eq_false (by decide)
      have n00 : ((0 : Nat) = 0) = True := eq_true rfl
      have n22 : ((2 : Nat) = 2) = True := eq_true rfl
      have fin : ∀ v : Int64, Q (nI 0) (nI 0) (va_up I 73 (va_up (I 73) 0 (nI 0))) (va_up (va_up L 36 (va_up (L 36) n v)) 76 (va_up (L 76) (60 * 3 + n) v)) := fun v => hQ _ _ _ (Rel_L f1 (SL_w (x := 3) hS (by decide) (by omega)))
      rcases this with rfl | rfl | rfl | rfl
      · refine b_X10_write_0_c3 ?_
        simp (disch := omega) only [pk_mul, nI_add, ksub, kdv, kd8, kd64, kd2, kd3, km8, km64, kt8, ke8, ke64, kcl, kin, kle, klt, keq, up_s, up_n, up_u, true_and, and_true, false_implies, true_implies, not_false_eq_true, not_true_eq_false, b1, b2, b3, n10, gn, knl, ti0, or_self, false_or, or_false]
        refine b_X11_write_73 ?_
        simp (disch := omega) only [pk_mul, nI_add, ksub, kdv, kd8, kd64, kd2, kd3, km8, km64, kt8, ke8, ke64, kcl, kin, kle, klt, keq, up_s, up_n, up_u, true_and, and_true, false_implies, true_implies, not_false_eq_true, not_true_eq_false, kzl, kl3, kcz1, kcz3, knl, gx, a4, a5, q2, gn2, n00]
        exact fin _
      · refine b_X10_write_0_c3 ?_
        simp (disch := omega) only [pk_mul, nI_add, ksub, kdv, kd8, kd64, kd2, kd3, km8, km64, kt8, ke8, ke64, kcl, kin, kle, klt, keq, up_s, up_n, up_u, true_and, and_true, false_implies, true_implies, not_false_eq_true, not_true_eq_false, b1, b2, b3, n10, gn, knl, ti1, or_self, false_or, or_false]
        refine b_X11_write_73 ?_
        simp (disch := omega) only [pk_mul, nI_add, ksub, kdv, kd8, kd64, kd2, kd3, km8, km64, kt8, ke8, ke64, kcl, kin, kle, klt, keq, up_s, up_n, up_u, true_and, and_true, false_implies, true_implies, not_false_eq_true, not_true_eq_false, kzl, kl3, kcz1, kcz3, knl, gx, a4, a5, q2, gn2, n10, k11]
        exact fin _
      · refine b_X10_write_0_c3 ?_
        simp (disch := omega) only [pk_mul, nI_add, ksub, kdv, kd8, kd64, kd2, kd3, km8, km64, kt8, ke8, ke64, kcl, kin, kle, klt, keq, up_s, up_n, up_u, true_and, and_true, false_implies, true_implies, not_false_eq_true, not_true_eq_false, b1, b2, b3, n10, gn, knl, ti2, or_self, false_or, or_false]
        refine b_X11_write_73 ?_
        simp (disch := omega) only [pk_mul, nI_add, ksub, kdv, kd8, kd64, kd2, kd3, km8, km64, kt8, ke8, ke64, kcl, kin, kle, klt, keq, up_s, up_n, up_u, true_and, and_true, false_implies, true_implies, not_false_eq_true, not_true_eq_false, kzl, kl3, kcz1, kcz3, knl, gx, a4, a5, q2, gn2, n20, n21, n22]
        exact fin _
      · refine b_X10_write_0_c3 ?_
        simp (disch := omega) only [pk_mul, nI_add, ksub, kdv, kd8, kd64, kd2, kd3, km8, km64, kt8, ke8, ke64, kcl, kin, kle, klt, keq, up_s, up_n, up_u, true_and, and_true, false_implies, true_implies, not_false_eq_true, not_true_eq_false, b1, b2, b3, n10, gn, knl, ti3, or_self, false_or, or_true]
        refine b_X11_write_73 ?_
        simp (disch := omega) only [pk_mul, nI_add, ksub, kdv, kd8, kd64, kd2, kd3, km8, km64, kt8, ke8, ke64, kcl, kin, kle, klt, keq, up_s, up_n, up_u, true_and, and_true, false_implies, true_implies, not_false_eq_true, not_true_eq_false, kzl, kl3, kcz1, kcz3, knl, gx, a4, a5, q2, gn2, n30, n31, n32]
        exact fin _
theorem r_write {B : tw → Nat × Nat × (Nat → Nat)} {e : am_V} {I : Nat → Nat → Int32} {L : Nat → Nat → Int64} {t : tw} {m : Nat} {v1 v2 : Int32} {v3 : Int64} {Q : Int32 → Int32 → (Nat → Nat → Int32) → (Nat → Nat → Int64) → Prop} (hR : Rel B e t I L m) (hQ : ∀ r J M, Rel B e t J M m → Q r r J M) : C_X10_write_0 e v1 v2 v3 I L (fun r J M => C_X11_write_73 e v1 v2 v3 J M (fun r' K N => Q r r' K N)) := by
  have f1 : Rel B e t (va_up I 73 (va_up (I 73) 0 (nI 0))) L m := Rel_q hR (fr_73 (fr_refl _ _ _) rfl) (frL_r L) (Nat.le_refl _)
  rcases crl v1 3 (by decide) with ax | ⟨ax, dx⟩ | ⟨x, hx, rfl⟩
  · (refine b_X10_write_0 ?_; simp (disch := omega) only [pk_mul, nI_add, ksub, kdv, kd8, kd64, kd2, kd3, km8, km64, kt8, ke8, ke64, kcl, kin, kle, klt, keq, up_s, up_n, up_u, true_and, and_true, false_implies, true_implies, not_false_eq_true, not_true_eq_false, ax]; refine b_X11_write_73 ?_; simp (disch := omega) only [pk_mul, nI_add, ksub, kdv, kd8, kd64, kd2, kd3, km8, km64, kt8, ke8, ke64, kcl, kin, kle, klt, keq, up_s, up_n, up_u, true_and, and_true, false_implies, true_implies, not_false_eq_true, not_true_eq_false, kzl, ax]; exact hQ _ _ _ f1)
  · have d4 : ¬ v1 < nI 4 := by
      rw [Int32.lt_iff_toInt_lt]
      rw [Int32.le_iff_toInt_le] at dx
      have h5 : (nI 3).toInt = 3 := rfl
      have h6 : (nI 4).toInt = 4 := rfl
      omega
    (refine b_X10_write_0 ?_; simp (disch := omega) only [pk_mul, nI_add, ksub, kdv, kd8, kd64, kd2, kd3, km8, km64, kt8, ke8, ke64, kcl, kin, kle, klt, keq, up_s, up_n, up_u, true_and, and_true, false_implies, true_implies, not_false_eq_true, not_true_eq_false, ax, d4]; refine b_X11_write_73 ?_; simp (disch := omega) only [pk_mul, nI_add, ksub, kdv, kd8, kd64, kd2, kd3, km8, km64, kt8, ke8, ke64, kcl, kin, kle, klt, keq, up_s, up_n, up_u, true_and, and_true, false_implies, true_implies, not_false_eq_true, not_true_eq_false, kzl, kl3, ax, dx]; exact hQ _ _ _ f1)
  · have : x = 0 ∨ x = 1 ∨ x = 2 ∨ x = 3 := by omega
    rcases this with rfl | rfl | rfl | rfl
    · exact w_write_0 hR hQ
    · exact w_write_1 hR hQ
    · exact w_write_2 hR hQ
    · exact w_write_3 hR hQ
