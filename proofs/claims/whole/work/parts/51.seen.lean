/-! what was seen: fits, gone; marches at any slot -/
def tri (g : Nat → Nat) (j : Nat) : Nat := 64 * g (3 * j) + 8 * g (3 * j + 1) + g (3 * j + 2)
def sns (g : Nat → Nat) (m k : Nat) : Nat := cn (fun j => decide (tri g j = k)) m
theorem sns_b (g : Nat → Nat) {m : Nat} (h : m ≤ 8) : ∀ k, k < 512 → sns g m k ≤ 1000 := by
  intro k _
  have := cn_n (fun j => decide (tri g j = k)) m
  unfold sns
  omega
theorem sns_z {t : tw} {g : Nat → Nat} {m : Nat} (h : ∀ j, j < m → tB t (tri g j) = true) : ∀ k, k < 512 → tB t k = false → sns g m k = 0 := by
  intro k _ hp
  refine cn_z (fun j hj => decide_eq_false (fun he => ?_))
  rw [← he, h j hj] at hp
  cases hp
theorem c_countSeen_0 {e : am_V} {I : Nat → Nat → Int32} {L : Nat → Nat → Int64} {Q : Int32 → (Nat → Nat → Int32) → Prop} {t : tw} {c : Nat} {g : Nat → Nat} (hC : CT t I) (hk : tok t) (h3 : I 29 3 = nI c) (hc : c ≤ 24) (hc3 : c % 3 = 0) (hg : ∀ k, k < c → L 30 k = lN (g k)) (hg8 : ∀ k, k < c → g k < t 0 0) (h1 : (∀ j, j < c / 3 → tB t (tri g j) = true) → ∀ J, fr [2] [] I J → (∀ k, k < 512 → tB t k = true → J 2 k = nI (sns g (c / 3) k)) → Q (nI 1) J) (h0 : (¬ ∀ j, j < c / 3 → tB t (tri g j) = true) → ∀ J, fr [2] [] I J → Q (nI 0) J) : C_X10_countSeen_0_29 e I L Q := by
  have hC2 := hC
  obtain ⟨c0, c1, c2, c3, c4, c5, c6, c7, c8, cS, cD, cN, cA, cT, cM, cR, cF, cO, cH, cL⟩ := hC
  obtain ⟨o0, oT, oZ, oY, oD, o9, oN, o28, oB, oX, oE, oF, oA, oH, oU, oV⟩ := hk
  refine b_X10_countSeen_0_29 (c_fill_2 (fun F0 hF0 => ?_))
  have ho : ∀ J, fr [2] [] I J → J 29 3 = nI c := fun J f => by rw [f.1 29 (by decide) (by decide)]; exact h3
  refine lp_up (n := c / 3) (S := Nat → Nat → Int32) (T := fun j J => T_X10_countSeen_0_29_p10 e (nI (3 * j)) J L Q) (fun j J => fr [2] [] I J ∧ (∀ k, k < 512 → tB t k = true → J 2 k = nI (sns g j k)) ∧ ∀ j', j' < j → tB t (tri g j') = true) ?_ ?_ 0 _ (Nat.zero_le _) ⟨fr_up (fr_refl _ _ _) rfl, fun k hk5 _ => hF0 k hk5, fun j' h => absurd h (Nat.not_lt_zero _)⟩
  · rintro j J hj ⟨i1, i2, i3⟩ hnext
    have e3 := ho J i1
    have CJ := fr_CT i1 hC2 rfl
    have c0J := CJ.1
    have q1 : (c ≤ 3 * j + 2) = False := eq_false (by omega)
    have g0 := hg8 (3 * j) (by omega)
    have g1 := hg8 (3 * j + 1) (by omega)
    have g2 := hg8 (3 * j + 2) (by omega)
    have y0 : (t 0 0 ≤ g (3 * j)) = False := eq_false (by omega)
    have y1 : (t 0 0 ≤ g (3 * j + 1)) = False := eq_false (by omega)
    have y2 : (t 0 0 ≤ g (3 * j + 2)) = False := eq_false (by omega)
    have e4 := CJ.2.2.2.2.2.2.2.2.2.1 (8 * g (3 * j) + g (3 * j + 1)) (by omega)
    have e5 := CJ.2.2.2.2.2.2.2.2.2.1 (8 * g (3 * j + 1) + g (3 * j + 2)) (by omega)
    have u4 := o9 (8 * g (3 * j) + g (3 * j + 1)) (by omega)
    have u5 := o9 (8 * g (3 * j + 1) + g (3 * j + 2)) (by omega)
    have hsb := sns_b g (m := j) (by omega) (tri g j)
    have hti : tB t (tri g j) = true ↔ 0 < t 1 (8 * g (3 * j) + g (3 * j + 1)) ∧ 0 < t 1 (8 * g (3 * j + 1) + g (3 * j + 2)) := by
      rw [tB_i]
      unfold tri
      rw [show (64 * g (3 * j) + 8 * g (3 * j + 1) + g (3 * j + 2)) / 8 = 8 * g (3 * j) + g (3 * j + 1) from by omega, show (64 * g (3 * j) + 8 * g (3 * j + 1) + g (3 * j + 2)) % 64 = 8 * g (3 * j + 1) + g (3 * j + 2) from by omega]
    refine b_X10_countSeen_0_29_p10 ?_
    simp (disch := omega) only [pk_mul, nI_add, ksub, kdv, kd8, kd64, kd2, kd3, km8, km64, kt8, ke8, ke64, kcl, kin, kle, klt, keq, up_s, up_n, up_u, true_and, and_true, false_implies, true_implies, not_false_eq_true, not_true_eq_false, e3, q1]
    refine c_cAt_0 e3 (by omega) (by omega) hg ?_
    refine c_cAt_0 e3 (by omega) (by omega) hg ?_
    refine c_cAt_0 e3 (by omega) (by omega) hg ?_
    simp (disch := omega) only [pk_mul, nI_add, ksub, kdv, kd8, kd64, kd2, kd3, km8, km64, kt8, ke8, ke64, kcl, kin, kle, klt, keq, up_s, up_n, up_u, true_and, and_true, false_implies, true_implies, not_false_eq_true, not_true_eq_false, c0J, knl, y0, y1, y2, e4, e5]
    refine ⟨fun h => h0 (fun h9 => ?_) J i1, fun h => ⟨fun h2 => h0 (fun h9 => ?_) J i1, fun h2 => ?_⟩⟩
    · have := hti.mp (h9 j hj)
      omega
    · have := hti.mp (h9 j hj)
      omega
    · have hT : tB t (tri g j) = true := hti.mpr ⟨by omega, by omega⟩
      have e2 : J 2 (64 * g (3 * j) + 8 * g (3 * j + 1) + g (3 * j + 2)) = nI (sns g j (tri g j)) := i2 (tri g j) (by unfold tri; omega) hT
      have q5 : 3 * j + 3 = 3 * (j + 1) := by omega
      simp (disch := omega) only [pk_mul, nI_add, ksub, kdv, kd8, kd64, kd2, kd3, km8, km64, kt8, ke8, ke64, kcl, kin, kle, klt, keq, up_s, up_n, up_u, true_and, and_true, false_implies, true_implies, not_false_eq_true, not_true_eq_false, e2, q5]
      refine hnext _ ⟨fr_up i1 rfl, fun k hk5 hp => ?_, fun j' hj' => ?_⟩
      · show va_up (J 2) (tri g j) (nI (sns g j (tri g j) + 1)) k = nI (sns g j k + (if decide (tri g j = k) = true then 1 else 0))
        by_cases he : k = tri g j
        · rw [he, up_s, if_pos (decide_eq_true rfl)]
        · rw [up_n he, if_neg (by rw [decide_eq_true_eq]; exact fun h => he h.symm)]
          exact i2 k hk5 hp
      · by_cases he : j' = j
        · rw [he]; exact hT
        · exact i3 j' (by omega)
  · rintro J ⟨i1, i2, i3⟩
    have e3 := ho J i1
    have q1 : (c ≤ 3 * (c / 3) + 2) = True := eq_true (by omega)
    refine b_X10_countSeen_0_29_p10 ?_
    simp (disch := omega) only [pk_mul, nI_add, ksub, kdv, kd8, kd64, kd2, kd3, km8, km64, kt8, ke8, ke64, kcl, kin, kle, klt, keq, up_s, up_n, up_u, true_and, and_true, false_implies, true_implies, not_false_eq_true, not_true_eq_false, e3, q1]
    exact h1 i3 J i1 i2
theorem c_countSeen_1 {e : am_V} {I : Nat → Nat → Int32} {L : Nat → Nat → Int64} {Q : Int32 → (Nat → Nat → Int32) → Prop} {t : tw} {c : Nat} {g : Nat → Nat} (hC : CT t I) (hk : tok t) (h3 : I 31 3 = nI c) (hc : c ≤ 24) (hc3 : c % 3 = 0) (hg : ∀ k, k < c → L 32 k = lN (g k)) (hg8 : ∀ k, k < c → g k < t 0 0) (h1 : (∀ j, j < c / 3 → tB t (tri g j) = true) → ∀ J, fr [2] [] I J → (∀ k, k < 512 → tB t k = true → J 2 k = nI (sns g (c / 3) k)) → Q (nI 1) J) (h0 : (¬ ∀ j, j < c / 3 → tB t (tri g j) = true) → ∀ J, fr [2] [] I J → Q (nI 0) J) : C_X10_countSeen_0_31 e I L Q := by
  have hC2 := hC
  obtain ⟨c0, c1, c2, c3, c4, c5, c6, c7, c8, cS, cD, cN, cA, cT, cM, cR, cF, cO, cH, cL⟩ := hC
  obtain ⟨o0, oT, oZ, oY, oD, o9, oN, o28, oB, oX, oE, oF, oA, oH, oU, oV⟩ := hk
  refine b_X10_countSeen_0_31 (c_fill_2 (fun F0 hF0 => ?_))
  have ho : ∀ J, fr [2] [] I J → J 31 3 = nI c := fun J f => by rw [f.1 31 (by decide) (by decide)]; exact h3
  refine lp_up (n := c / 3) (S := Nat → Nat → Int32) (T := fun j J => T_X10_countSeen_0_31_p10 e (nI (3 * j)) J L Q) (fun j J => fr [2] [] I J ∧ (∀ k, k < 512 → tB t k = true → J 2 k = nI (sns g j k)) ∧ ∀ j', j' < j → tB t (tri g j') = true) ?_ ?_ 0 _ (Nat.zero_le _) ⟨fr_up (fr_refl _ _ _) rfl, fun k hk5 _ => hF0 k hk5, fun j' h => absurd h (Nat.not_lt_zero _)⟩
  · rintro j J hj ⟨i1, i2, i3⟩ hnext
    have e3 := ho J i1
    have CJ := fr_CT i1 hC2 rfl
    have c0J := CJ.1
    have q1 : (c ≤ 3 * j + 2) = False := eq_false (by omega)
    have g0 := hg8 (3 * j) (by omega)
    have g1 := hg8 (3 * j + 1) (by omega)
    have g2 := hg8 (3 * j + 2) (by omega)
    have y0 : (t 0 0 ≤ g (3 * j)) = False := eq_false (by omega)
    have y1 : (t 0 0 ≤ g (3 * j + 1)) = False := eq_false (by omega)
    have y2 : (t 0 0 ≤ g (3 * j + 2)) = False := eq_false (by omega)
    have e4 := CJ.2.2.2.2.2.2.2.2.2.1 (8 * g (3 * j) + g (3 * j + 1)) (by omega)
    have e5 := CJ.2.2.2.2.2.2.2.2.2.1 (8 * g (3 * j + 1) + g (3 * j + 2)) (by omega)
    have u4 := o9 (8 * g (3 * j) + g (3 * j + 1)) (by omega)
    have u5 := o9 (8 * g (3 * j + 1) + g (3 * j + 2)) (by omega)
    have hsb := sns_b g (m := j) (by omega) (tri g j)
    have hti : tB t (tri g j) = true ↔ 0 < t 1 (8 * g (3 * j) + g (3 * j + 1)) ∧ 0 < t 1 (8 * g (3 * j + 1) + g (3 * j + 2)) := by
      rw [tB_i]
      unfold tri
      rw [show (64 * g (3 * j) + 8 * g (3 * j + 1) + g (3 * j + 2)) / 8 = 8 * g (3 * j) + g (3 * j + 1) from by omega, show (64 * g (3 * j) + 8 * g (3 * j + 1) + g (3 * j + 2)) % 64 = 8 * g (3 * j + 1) + g (3 * j + 2) from by omega]
    refine b_X10_countSeen_0_31_p10 ?_
    simp (disch := omega) only [pk_mul, nI_add, ksub, kdv, kd8, kd64, kd2, kd3, km8, km64, kt8, ke8, ke64, kcl, kin, kle, klt, keq, up_s, up_n, up_u, true_and, and_true, false_implies, true_implies, not_false_eq_true, not_true_eq_false, e3, q1]
    refine c_cAt_1 e3 (by omega) (by omega) hg ?_
    refine c_cAt_1 e3 (by omega) (by omega) hg ?_
    refine c_cAt_1 e3 (by omega) (by omega) hg ?_
    simp (disch := omega) only [pk_mul, nI_add, ksub, kdv, kd8, kd64, kd2, kd3, km8, km64, kt8, ke8, ke64, kcl, kin, kle, klt, keq, up_s, up_n, up_u, true_and, and_true, false_implies, true_implies, not_false_eq_true, not_true_eq_false, c0J, knl, y0, y1, y2, e4, e5]
    refine ⟨fun h => h0 (fun h9 => ?_) J i1, fun h => ⟨fun h2 => h0 (fun h9 => ?_) J i1, fun h2 => ?_⟩⟩
    · have := hti.mp (h9 j hj)
      omega
    · have := hti.mp (h9 j hj)
      omega
    · have hT : tB t (tri g j) = true := hti.mpr ⟨by omega, by omega⟩
      have e2 : J 2 (64 * g (3 * j) + 8 * g (3 * j + 1) + g (3 * j + 2)) = nI (sns g j (tri g j)) := i2 (tri g j) (by unfold tri; omega) hT
      have q5 : 3 * j + 3 = 3 * (j + 1) := by omega
      simp (disch := omega) only [pk_mul, nI_add, ksub, kdv, kd8, kd64, kd2, kd3, km8, km64, kt8, ke8, ke64, kcl, kin, kle, klt, keq, up_s, up_n, up_u, true_and, and_true, false_implies, true_implies, not_false_eq_true, not_true_eq_false, e2, q5]
      refine hnext _ ⟨fr_up i1 rfl, fun k hk5 hp => ?_, fun j' hj' => ?_⟩
      · show va_up (J 2) (tri g j) (nI (sns g j (tri g j) + 1)) k = nI (sns g j k + (if decide (tri g j = k) = true then 1 else 0))
        by_cases he : k = tri g j
        · rw [he, up_s, if_pos (decide_eq_true rfl)]
        · rw [up_n he, if_neg (by rw [decide_eq_true_eq]; exact fun h => he h.symm)]
          exact i2 k hk5 hp
      · by_cases he : j' = j
        · rw [he]; exact hT
        · exact i3 j' (by omega)
  · rintro J ⟨i1, i2, i3⟩
    have e3 := ho J i1
    have q1 : (c ≤ 3 * (c / 3) + 2) = True := eq_true (by omega)
    refine b_X10_countSeen_0_31_p10 ?_
    simp (disch := omega) only [pk_mul, nI_add, ksub, kdv, kd8, kd64, kd2, kd3, km8, km64, kt8, ke8, ke64, kcl, kin, kle, klt, keq, up_s, up_n, up_u, true_and, and_true, false_implies, true_implies, not_false_eq_true, not_true_eq_false, e3, q1]
    exact h1 i3 J i1 i2
theorem c_countSeen_2 {e : am_V} {I : Nat → Nat → Int32} {L : Nat → Nat → Int64} {Q : Int32 → (Nat → Nat → Int32) → Prop} {t : tw} {c : Nat} {g : Nat → Nat} (hC : CT t I) (hk : tok t) (h3 : I 33 3 = nI c) (hc : c ≤ 24) (hc3 : c % 3 = 0) (hg : ∀ k, k < c → L 34 k = lN (g k)) (hg8 : ∀ k, k < c → g k < t 0 0) (h1 : (∀ j, j < c / 3 → tB t (tri g j) = true) → ∀ J, fr [2] [] I J → (∀ k, k < 512 → tB t k = true → J 2 k = nI (sns g (c / 3) k)) → Q (nI 1) J) (h0 : (¬ ∀ j, j < c / 3 → tB t (tri g j) = true) → ∀ J, fr [2] [] I J → Q (nI 0) J) : C_X10_countSeen_0_33 e I L Q := by
  have hC2 := hC
  obtain ⟨c0, c1, c2, c3, c4, c5, c6, c7, c8, cS, cD, cN, cA, cT, cM, cR, cF, cO, cH, cL⟩ := hC
  obtain ⟨o0, oT, oZ, oY, oD, o9, oN, o28, oB, oX, oE, oF, oA, oH, oU, oV⟩ := hk
  refine b_X10_countSeen_0_33 (c_fill_2 (fun F0 hF0 => ?_))
  have ho : ∀ J, fr [2] [] I J → J 33 3 = nI c := fun J f => by rw [f.1 33 (by decide) (by decide)]; exact h3
  refine lp_up (n := c / 3) (S := Nat → Nat → Int32) (T := fun j J => T_X10_countSeen_0_33_p10 e (nI (3 * j)) J L Q) (fun j J => fr [2] [] I J ∧ (∀ k, k < 512 → tB t k = true → J 2 k = nI (sns g j k)) ∧ ∀ j', j' < j → tB t (tri g j') = true) ?_ ?_ 0 _ (Nat.zero_le _) ⟨fr_up (fr_refl _ _ _) rfl, fun k hk5 _ => hF0 k hk5, fun j' h => absurd h (Nat.not_lt_zero _)⟩
  · rintro j J hj ⟨i1, i2, i3⟩ hnext
    have e3 := ho J i1
    have CJ := fr_CT i1 hC2 rfl
    have c0J := CJ.1
    have q1 : (c ≤ 3 * j + 2) = False := eq_false (by omega)
    have g0 := hg8 (3 * j) (by omega)
    have g1 := hg8 (3 * j + 1) (by omega)
    have g2 := hg8 (3 * j + 2) (by omega)
    have y0 : (t 0 0 ≤ g (3 * j)) = False := eq_false (by omega)
    have y1 : (t 0 0 ≤ g (3 * j + 1)) = False := eq_false (by omega)
    have y2 : (t 0 0 ≤ g (3 * j + 2)) = False := eq_false (by omega)
    have e4 := CJ.2.2.2.2.2.2.2.2.2.1 (8 * g (3 * j) + g (3 * j + 1)) (by omega)
    have e5 := CJ.2.2.2.2.2.2.2.2.2.1 (8 * g (3 * j + 1) + g (3 * j + 2)) (by omega)
    have u4 := o9 (8 * g (3 * j) + g (3 * j + 1)) (by omega)
    have u5 := o9 (8 * g (3 * j + 1) + g (3 * j + 2)) (by omega)
    have hsb := sns_b g (m := j) (by omega) (tri g j)
    have hti : tB t (tri g j) = true ↔ 0 < t 1 (8 * g (3 * j) + g (3 * j + 1)) ∧ 0 < t 1 (8 * g (3 * j + 1) + g (3 * j + 2)) := by
      rw [tB_i]
      unfold tri
      rw [show (64 * g (3 * j) + 8 * g (3 * j + 1) + g (3 * j + 2)) / 8 = 8 * g (3 * j) + g (3 * j + 1) from by omega, show (64 * g (3 * j) + 8 * g (3 * j + 1) + g (3 * j + 2)) % 64 = 8 * g (3 * j + 1) + g (3 * j + 2) from by omega]
    refine b_X10_countSeen_0_33_p10 ?_
    simp (disch := omega) only [pk_mul, nI_add, ksub, kdv, kd8, kd64, kd2, kd3, km8, km64, kt8, ke8, ke64, kcl, kin, kle, klt, keq, up_s, up_n, up_u, true_and, and_true, false_implies, true_implies, not_false_eq_true, not_true_eq_false, e3, q1]
    refine c_cAt_2 e3 (by omega) (by omega) hg ?_
    refine c_cAt_2 e3 (by omega) (by omega) hg ?_
    refine c_cAt_2 e3 (by omega) (by omega) hg ?_
    simp (disch := omega) only [pk_mul, nI_add, ksub, kdv, kd8, kd64, kd2, kd3, km8, km64, kt8, ke8, ke64, kcl, kin, kle, klt, keq, up_s, up_n, up_u, true_and, and_true, false_implies, true_implies, not_false_eq_true, not_true_eq_false, c0J, knl, y0, y1, y2, e4, e5]
    refine ⟨fun h => h0 (fun h9 => ?_) J i1, fun h => ⟨fun h2 => h0 (fun h9 => ?_) J i1, fun h2 => ?_⟩⟩
    · have := hti.mp (h9 j hj)
      omega
    · have := hti.mp (h9 j hj)
      omega
    · have hT : tB t (tri g j) = true := hti.mpr ⟨by omega, by omega⟩
      have e2 : J 2 (64 * g (3 * j) + 8 * g (3 * j + 1) + g (3 * j + 2)) = nI (sns g j (tri g j)) := i2 (tri g j) (by unfold tri; omega) hT
      have q5 : 3 * j + 3 = 3 * (j + 1) := by omega
      simp (disch := omega) only [pk_mul, nI_add, ksub, kdv, kd8, kd64, kd2, kd3, km8, km64, kt8, ke8, ke64, kcl, kin, kle, klt, keq, up_s, up_n, up_u, true_and, and_true, false_implies, true_implies, not_false_eq_true, not_true_eq_false, e2, q5]
      refine hnext _ ⟨fr_up i1 rfl, fun k hk5 hp => ?_, fun j' hj' => ?_⟩
      · show va_up (J 2) (tri g j) (nI (sns g j (tri g j) + 1)) k = nI (sns g j k + (if decide (tri g j = k) = true then 1 else 0))
        by_cases he : k = tri g j
        · rw [he, up_s, if_pos (decide_eq_true rfl)]
        · rw [up_n he, if_neg (by rw [decide_eq_true_eq]; exact fun h => he h.symm)]
          exact i2 k hk5 hp
      · by_cases he : j' = j
        · rw [he]; exact hT
        · exact i3 j' (by omega)
  · rintro J ⟨i1, i2, i3⟩
    have e3 := ho J i1
    have q1 : (c ≤ 3 * (c / 3) + 2) = True := eq_true (by omega)
    refine b_X10_countSeen_0_33_p10 ?_
    simp (disch := omega) only [pk_mul, nI_add, ksub, kdv, kd8, kd64, kd2, kd3, km8, km64, kt8, ke8, ke64, kcl, kin, kle, klt, keq, up_s, up_n, up_u, true_and, and_true, false_implies, true_implies, not_false_eq_true, not_true_eq_false, e3, q1]
    exact h1 i3 J i1 i2
theorem c_countSeen_3 {e : am_V} {I : Nat → Nat → Int32} {L : Nat → Nat → Int64} {Q : Int32 → (Nat → Nat → Int32) → Prop} {t : tw} {c : Nat} {g : Nat → Nat} (hC : CT t I) (hk : tok t) (h3 : I 35 3 = nI c) (hc : c ≤ 24) (hc3 : c % 3 = 0) (hg : ∀ k, k < c → L 36 k = lN (g k)) (hg8 : ∀ k, k < c → g k < t 0 0) (h1 : (∀ j, j < c / 3 → tB t (tri g j) = true) → ∀ J, fr [2] [] I J → (∀ k, k < 512 → tB t k = true → J 2 k = nI (sns g (c / 3) k)) → Q (nI 1) J) (h0 : (¬ ∀ j, j < c / 3 → tB t (tri g j) = true) → ∀ J, fr [2] [] I J → Q (nI 0) J) : C_X10_countSeen_0_35 e I L Q := by
  have hC2 := hC
  obtain ⟨c0, c1, c2, c3, c4, c5, c6, c7, c8, cS, cD, cN, cA, cT, cM, cR, cF, cO, cH, cL⟩ := hC
  obtain ⟨o0, oT, oZ, oY, oD, o9, oN, o28, oB, oX, oE, oF, oA, oH, oU, oV⟩ := hk
  refine b_X10_countSeen_0_35 (c_fill_2 (fun F0 hF0 => ?_))
  have ho : ∀ J, fr [2] [] I J → J 35 3 = nI c := fun J f => by rw [f.1 35 (by decide) (by decide)]; exact h3
  refine lp_up (n := c / 3) (S := Nat → Nat → Int32) (T := fun j J => T_X10_countSeen_0_35_p10 e (nI (3 * j)) J L Q) (fun j J => fr [2] [] I J ∧ (∀ k, k < 512 → tB t k = true → J 2 k = nI (sns g j k)) ∧ ∀ j', j' < j → tB t (tri g j') = true) ?_ ?_ 0 _ (Nat.zero_le _) ⟨fr_up (fr_refl _ _ _) rfl, fun k hk5 _ => hF0 k hk5, fun j' h => absurd h (Nat.not_lt_zero _)⟩
  · rintro j J hj ⟨i1, i2, i3⟩ hnext
    have e3 := ho J i1
    have CJ := fr_CT i1 hC2 rfl
    have c0J := CJ.1
    have q1 : (c ≤ 3 * j + 2) = False := eq_false (by omega)
    have g0 := hg8 (3 * j) (by omega)
    have g1 := hg8 (3 * j + 1) (by omega)
    have g2 := hg8 (3 * j + 2) (by omega)
    have y0 : (t 0 0 ≤ g (3 * j)) = False := eq_false (by omega)
    have y1 : (t 0 0 ≤ g (3 * j + 1)) = False := eq_false (by omega)
    have y2 : (t 0 0 ≤ g (3 * j + 2)) = False := eq_false (by omega)
    have e4 := CJ.2.2.2.2.2.2.2.2.2.1 (8 * g (3 * j) + g (3 * j + 1)) (by omega)
    have e5 := CJ.2.2.2.2.2.2.2.2.2.1 (8 * g (3 * j + 1) + g (3 * j + 2)) (by omega)
    have u4 := o9 (8 * g (3 * j) + g (3 * j + 1)) (by omega)
    have u5 := o9 (8 * g (3 * j + 1) + g (3 * j + 2)) (by omega)
    have hsb := sns_b g (m := j) (by omega) (tri g j)
    have hti : tB t (tri g j) = true ↔ 0 < t 1 (8 * g (3 * j) + g (3 * j + 1)) ∧ 0 < t 1 (8 * g (3 * j + 1) + g (3 * j + 2)) := by
      rw [tB_i]
      unfold tri
      rw [show (64 * g (3 * j) + 8 * g (3 * j + 1) + g (3 * j + 2)) / 8 = 8 * g (3 * j) + g (3 * j + 1) from by omega, show (64 * g (3 * j) + 8 * g (3 * j + 1) + g (3 * j + 2)) % 64 = 8 * g (3 * j + 1) + g (3 * j + 2) from by omega]
    refine b_X10_countSeen_0_35_p10 ?_
    simp (disch := omega) only [pk_mul, nI_add, ksub, kdv, kd8, kd64, kd2, kd3, km8, km64, kt8, ke8, ke64, kcl, kin, kle, klt, keq, up_s, up_n, up_u, true_and, and_true, false_implies, true_implies, not_false_eq_true, not_true_eq_false, e3, q1]
    refine c_cAt_3 e3 (by omega) (by omega) hg ?_
    refine c_cAt_3 e3 (by omega) (by omega) hg ?_
    refine c_cAt_3 e3 (by omega) (by omega) hg ?_
    simp (disch := omega) only [pk_mul, nI_add, ksub, kdv, kd8, kd64, kd2, kd3, km8, km64, kt8, ke8, ke64, kcl, kin, kle, klt, keq, up_s, up_n, up_u, true_and, and_true, false_implies, true_implies, not_false_eq_true, not_true_eq_false, c0J, knl, y0, y1, y2, e4, e5]
    refine ⟨fun h => h0 (fun h9 => ?_) J i1, fun h => ⟨fun h2 => h0 (fun h9 => ?_) J i1, fun h2 => ?_⟩⟩
    · have := hti.mp (h9 j hj)
      omega
    · have := hti.mp (h9 j hj)
      omega
    · have hT : tB t (tri g j) = true := hti.mpr ⟨by omega, by omega⟩
      have e2 : J 2 (64 * g (3 * j) + 8 * g (3 * j + 1) + g (3 * j + 2)) = nI (sns g j (tri g j)) := i2 (tri g j) (by unfold tri; omega) hT
      have q5 : 3 * j + 3 = 3 * (j + 1) := by omega
      simp (disch := omega) only [pk_mul, nI_add, ksub, kdv, kd8, kd64, kd2, kd3, km8, km64, kt8, ke8, ke64, kcl, kin, kle, klt, keq, up_s, up_n, up_u, true_and, and_true, false_implies, true_implies, not_false_eq_true, not_true_eq_false, e2, q5]
      refine hnext _ ⟨fr_up i1 rfl, fun k hk5 hp => ?_, fun j' hj' => ?_⟩
      · show va_up (J 2) (tri g j) (nI (sns g j (tri g j) + 1)) k = nI (sns g j k + (if decide (tri g j = k) = true then 1 else 0))
        by_cases he : k = tri g j
        · rw [he, up_s, if_pos (decide_eq_true rfl)]
        · rw [up_n he, if_neg (by rw [decide_eq_true_eq]; exact fun h => he h.symm)]
          exact i2 k hk5 hp
      · by_cases he : j' = j
        · rw [he]; exact hT
        · exact i3 j' (by omega)
  · rintro J ⟨i1, i2, i3⟩
    have e3 := ho J i1
    have q1 : (c ≤ 3 * (c / 3) + 2) = True := eq_true (by omega)
    refine b_X10_countSeen_0_35_p10 ?_
    simp (disch := omega) only [pk_mul, nI_add, ksub, kdv, kd8, kd64, kd2, kd3, km8, km64, kt8, ke8, ke64, kcl, kin, kle, klt, keq, up_s, up_n, up_u, true_and, and_true, false_implies, true_implies, not_false_eq_true, not_true_eq_false, e3, q1]
    exact h1 i3 J i1 i2
theorem c_whyNotSeen {e : am_V} {I : Nat → Nat → Int32} {L : Nat → Nat → Int64} {Q : Int32 → (Nat → Nat → Int32) → Prop} {t : tw} {c s : Nat} {f : Nat → Int64} (hM : MT t I) (hk : tok t) (hs : s < 4) (h75 : I 75 s = nI c) (hc : c ≤ 24) (hc3 : c % 3 = 0) (hf : ∀ k, k < c → L 76 (60 * s + k) = f k)
    (h1 : ∀ g : Nat → Nat, (∀ k, k < c → g k < t 0 0 ∧ f k = lN (g k)) → (∀ j, j < c / 3 → tB t (tri g j) = true) → ∀ J, fr [87] [] I J → (∀ k, k < 512 → J 87 k = nI (sns g (c / 3) k)) → Q (nI 0) J)
    (h0 : (¬ ∃ g : Nat → Nat, (∀ k, k < c → g k < t 0 0 ∧ f k = lN (g k)) ∧ ∀ j, j < c / 3 → tB t (tri g j) = true) → ∀ J, fr [87] [] I J → Q (-2 : Int32) J) : T_X11_whyNotSeen_73_p59 e (nI s) (nI 0) I L Q := by
  have hM2 := hM
  obtain ⟨m0, m1, m2, m3, m4, m5, mS, mU, mL, mF, mO, mH, mA, mK⟩ := hM
  obtain ⟨o0, oT, oZ, oY, oD, o9, oN, o28, oB, oX, oE, oF, oA, oH, oU, oV⟩ := hk
  have hno : ∀ k, k < c → gdc (t 0 0) (f k) = false → ¬ ∃ g : Nat → Nat, (∀ k, k < c → g k < t 0 0 ∧ f k = lN (g k)) ∧ ∀ j, j < c / 3 → tB t (tri g j) = true := by
    rintro k hkc hb ⟨g, hg, _⟩
    obtain ⟨h5, h6⟩ := hg k hkc
    have : gdc (t 0 0) (f k) = true := by
      rw [gdc_i, h6, nI_l (by omega), Int64.lt_iff_toInt_lt, Int64.lt_iff_toInt_lt, lN_toInt (by omega), lN_toInt (by omega)]
      have h7 : (0 : Int64).toInt = 0 := rfl
      omega
    rw [hb] at this; cases this
  have h59 : T_X11_whyNotSeen_73_p59 e (nI s) (nI 0) (va_up I 87 (I 87)) L Q := by
    refine lp_up (n := 512) (S := Nat → Int32) (T := fun k F => T_X11_whyNotSeen_73_p59 e (nI s) (nI k) (va_up I 87 F) L Q) (fun k F => ∀ j, j < k → F j = nI 0) ?_ ?_ 0 (I 87) (Nat.zero_le _) (fun j h => absurd h (Nat.not_lt_zero _))
    · intro k F hk hi hnext
      refine b_X11_whyNotSeen_73_p59 ?_
      have hnk : (512 ≤ k) = False := eq_false (by omega)
      simp (disch := omega) only [pk_mul, nI_add, ksub, kdv, kd8, kd64, kd2, kd3, km8, km64, kt8, ke8, ke64, kcl, kin, kle, klt, keq, up_s, up_n, up_u, true_and, and_true, false_implies, true_implies, not_false_eq_true, not_true_eq_false, hnk]
      refine hnext _ (fun j hj => ?_)
      by_cases he : j = k
      · rw [he, up_s]
      · rw [up_n he]; exact hi j (by omega)
    · intro F hi
      refine b_X11_whyNotSeen_73_p59 ?_
      have hnn : (512 ≤ 512) = True := eq_true (Nat.le_refl _)
      simp (disch := omega) only [pk_mul, nI_add, ksub, kdv, kd8, kd64, kd2, kd3, km8, km64, kt8, ke8, ke64, kcl, kin, kle, klt, keq, up_s, up_n, up_u, true_and, and_true, false_implies, true_implies, not_false_eq_true, not_true_eq_false, hnn]
      refine lp_up (n := c / 3) (S := Nat → Nat → Int32) (T := fun j J => T_X11_whyNotSeen_73_p81 e (nI s) (nI (3 * j)) J L Q) (fun j J => fr [87] [] I J ∧ ∃ g : Nat → Nat, (∀ k, k < 3 * j → g k < t 0 0 ∧ f k = lN (g k)) ∧ (∀ k, k < 512 → J 87 k = nI (sns g j k)) ∧ ∀ j', j' < j → tB t (tri g j') = true) ?_ ?_ 0 _ (Nat.zero_le _) ⟨fr_up (fr_refl _ _ _) rfl, fun _ => 0, fun k h => absurd h (Nat.not_lt_zero _), hi, fun j' h => absurd h (Nat.not_lt_zero _)⟩
      · rintro j J hj ⟨i1, g, i2, i3, i4⟩ hnext
        have e75 : J 75 s = nI c := by rw [i1.1 75 (by decide) (by decide)]; exact h75
        have MJ := fr_MT i1 hM2 rfl
        have m1J := MJ.2.1
        have q1 : (c ≤ 3 * j) = False := eq_false (by omega)
        have l0 := hf (3 * j) (by omega)
        have l1 := hf (3 * j + 1) (by omega)
        have l2 := hf (3 * j + 2) (by omega)
        have a1 : 60 * s + 3 * j + 1 = 60 * s + (3 * j + 1) := by omega
        have a2 : 60 * s + 3 * j + 2 = 60 * s + (3 * j + 2) := by omega
        refine b_X11_whyNotSeen_73_p81 ?_
        simp (disch := omega) only [pk_mul, nI_add, ksub, kdv, kd8, kd64, kd2, kd3, km8, km64, kt8, ke8, ke64, kcl, kin, kle, klt, keq, up_s, up_n, up_u, true_and, and_true, false_implies, true_implies, not_false_eq_true, not_true_eq_false, e75, q1, m1J, a1, a2, l0, l1, l2]
        have hb : ∀ k, k < c → (f k < (0 : Int64) ∨ (nI (t 0 0)).toInt64 - (1 : Int64) < f k) → Q (-2 : Int32) J := by
          intro k hkc hbad
          refine h0 (hno k hkc ?_) J i1
          cases hgd : gdc (t 0 0) (f k) with
          | false => rfl
          | true =>
            obtain ⟨u1, u2⟩ := gdc_i.mp hgd
            rcases hbad with h | h
            · exact absurd h u1
            · exact absurd u2 ((gdc_m o0).mp h)
        refine ⟨fun h => hb _ (by omega) (Or.inl h), fun b1 => ⟨fun h => hb _ (by omega) (Or.inr h), fun b2 => ⟨fun h => hb _ (by omega) (Or.inl h), fun b3 => ⟨fun h => hb _ (by omega) (Or.inr h), fun b4 => ⟨fun h => hb _ (by omega) (Or.inl h), fun b5 => ⟨fun h => hb _ (by omega) (Or.inr h), fun b6 => ?_⟩⟩⟩⟩⟩⟩
        obtain ⟨x, hx, ex⟩ := gdc_o o0 (gdc_i.mpr ⟨b1, Classical.not_not.mp (fun h => b2 ((gdc_m o0).mpr h))⟩)
        obtain ⟨y, hy, ey⟩ := gdc_o o0 (gdc_i.mpr ⟨b3, Classical.not_not.mp (fun h => b4 ((gdc_m o0).mpr h))⟩)
        obtain ⟨z, hz, ez⟩ := gdc_o o0 (gdc_i.mpr ⟨b5, Classical.not_not.mp (fun h => b6 ((gdc_m o0).mpr h))⟩)
        have e4 := MJ.2.2.2.2.2.2.1 (8 * x + y) (by omega)
        have e5 := MJ.2.2.2.2.2.2.1 (8 * y + z) (by omega)
        have u4 := o9 (8 * x + y) (by omega)
        have u5 := o9 (8 * y + z) (by omega)
        have e87 := i3 (64 * x + 8 * y + z) (by omega)
        have hgx : ∀ g' : Nat → Nat, (∀ k, k < c → g' k < t 0 0 ∧ f k = lN (g' k)) → g' (3 * j) = x ∧ g' (3 * j + 1) = y ∧ g' (3 * j + 2) = z := by
          intro g' hg'
          obtain ⟨v0, w0⟩ := hg' (3 * j) (by omega)
          obtain ⟨v1, w1⟩ := hg' (3 * j + 1) (by omega)
          obtain ⟨v2, w2⟩ := hg' (3 * j + 2) (by omega)
          rw [ex] at w0
          rw [ey] at w1
          rw [ez] at w2
          exact ⟨((lN_eq (by omega) (by omega)).mp w0).symm, ((lN_eq (by omega) (by omega)).mp w1).symm, ((lN_eq (by omega) (by omega)).mp w2).symm⟩
        have hnt : ¬ (0 < t 1 (8 * x + y) ∧ 0 < t 1 (8 * y + z)) → Q (-2 : Int32) J := by
          intro hbad
          refine h0 ?_ J i1
          rintro ⟨g', hg', ht'⟩
          obtain ⟨w0, w1, w2⟩ := hgx g' hg'
          have h5 := tB_i.mp (ht' j hj)
          unfold tri at h5
          rw [w0, w1, w2, show (64 * x + 8 * y + z) / 8 = 8 * x + y from by omega, show (64 * x + 8 * y + z) % 64 = 8 * y + z from by omega] at h5
          exact hbad h5
        simp (disch := omega) only [pk_mul, nI_add, ksub, kdv, kd8, kd64, kd2, kd3, km8, km64, kt8, ke8, ke64, kcl, kin, kle, klt, keq, up_s, up_n, up_u, true_and, and_true, false_implies, true_implies, not_false_eq_true, not_true_eq_false, ex, ey, ez, lN_i, e4, e5]
        refine ⟨fun h => hnt (by omega), fun h => ⟨fun h2 => hnt (by omega), fun h2 => ?_⟩⟩
        have q5 : 3 * j + 3 = 3 * (j + 1) := by omega
        have hsb := sns_b g (m := j) (by omega) (64 * x + 8 * y + z) (by omega)
        simp (disch := omega) only [pk_mul, nI_add, ksub, kdv, kd8, kd64, kd2, kd3, km8, km64, kt8, ke8, ke64, kcl, kin, kle, klt, keq, up_s, up_n, up_u, true_and, and_true, false_implies, true_implies, not_false_eq_true, not_true_eq_false, e87, q5]
        have hg2 : ∀ j', j' < j → tri (fun k => if k = 3 * j then x else if k = 3 * j + 1 then y else if k = 3 * j + 2 then z else g k) j' = tri g j' := by
          intro j' hj'
          unfold tri
          dsimp only
          rw [if_neg (show ¬ 3 * j' = 3 * j from by omega), if_neg (show ¬ 3 * j' = 3 * j + 1 from by omega), if_neg (show ¬ 3 * j' = 3 * j + 2 from by omega), if_neg (show ¬ 3 * j' + 1 = 3 * j from by omega), if_neg (show ¬ 3 * j' + 1 = 3 * j + 1 from by omega), if_neg (show ¬ 3 * j' + 1 = 3 * j + 2 from by omega), if_neg (show ¬ 3 * j' + 2 = 3 * j from by omega), if_neg (show ¬ 3 * j' + 2 = 3 * j + 1 from by omega), if_neg (show ¬ 3 * j' + 2 = 3 * j + 2 from by omega)]
        have hgj : tri (fun k => if k = 3 * j then x else if k = 3 * j + 1 then y else if k = 3 * j + 2 then z else g k) j = 64 * x + 8 * y + z := by
          unfold tri
          dsimp only
          rw [if_pos rfl, if_neg (show ¬ 3 * j + 1 = 3 * j from by omega), if_pos rfl, if_neg (show ¬ 3 * j + 2 = 3 * j from by omega), if_neg (show ¬ 3 * j + 2 = 3 * j + 1 from by omega), if_pos rfl]
        refine hnext _ ⟨fr_up i1 rfl, fun k => if k = 3 * j then x else if k = 3 * j + 1 then y else if k = 3 * j + 2 then z else g k, fun k hkj => ?_, fun k hk5 => ?_, fun j' hj' => ?_⟩
        · dsimp only
          by_cases k0 : k = 3 * j
          · rw [if_pos k0, k0]; exact ⟨hx, ex⟩
          · rw [if_neg k0]
            by_cases k1 : k = 3 * j + 1
            · rw [if_pos k1, k1]; exact ⟨hy, ey⟩
            · rw [if_neg k1]
              by_cases k2 : k = 3 * j + 2
              · rw [if_pos k2, k2]; exact ⟨hz, ez⟩
              · rw [if_neg k2]; exact i2 k (by omega)
        · have hsn : sns (fun k => if k = 3 * j then x else if k = 3 * j + 1 then y else if k = 3 * j + 2 then z else g k) (j + 1) k = sns g j k + (if 64 * x + 8 * y + z = k then 1 else 0) := by
            show cn _ j + (if decide (tri _ j = k) = true then 1 else 0) = _
            rw [hgj]
            have h7 : cn (fun j' => decide (tri (fun k => if k = 3 * j then x else if k = 3 * j + 1 then y else if k = 3 * j + 2 then z else g k) j' = k)) j = sns g j k := cn_c (fun j' hj' => by rw [hg2 j' hj'])
            rw [h7]
            by_cases he : 64 * x + 8 * y + z = k
            · rw [if_pos (decide_eq_true he), if_pos he]
            · rw [if_neg (by rw [decide_eq_true_eq]; exact he), if_neg he]
          rw [hsn]
          show va_up (J 87) (64 * x + 8 * y + z) (nI (sns g j (64 * x + 8 * y + z) + 1)) k = _
          by_cases he : k = 64 * x + 8 * y + z
          · rw [he, up_s, if_pos rfl]
          · rw [up_n he, if_neg (fun h => he h.symm)]
            exact i3 k hk5
        · by_cases he : j' = j
          · rw [he, hgj]
            exact tB_x (by omega) (by omega) (by omega) (by omega) (by omega)
          · rw [hg2 j' (by omega)]
            exact i4 j' (by omega)
      · rintro J ⟨i1, g, i2, i3, i4⟩
        have e75 : J 75 s = nI c := by rw [i1.1 75 (by decide) (by decide)]; exact h75
        have q1 : (c ≤ 3 * (c / 3)) = True := eq_true (by omega)
        refine b_X11_whyNotSeen_73_p81 ?_
        simp (disch := omega) only [pk_mul, nI_add, ksub, kdv, kd8, kd64, kd2, kd3, km8, km64, kt8, ke8, ke64, kcl, kin, kle, klt, keq, up_s, up_n, up_u, true_and, and_true, false_implies, true_implies, not_false_eq_true, not_true_eq_false, e75, q1]
        exact h1 g (fun k hkc => i2 k (by omega)) i4 J i1 i3
  rw [up_id] at h59
  exact h59
theorem q_fits_0 {e : am_V} {I : Nat → Nat → Int32} {L : Nat → Nat → Int64} {t : tw} {Q : Int32 → Int32 → (Nat → Nat → Int32) → Prop} {v2 : Int32} (hC : CT t I) (hM : MT t I) (hk : tok t) (hS : SL I L) (hQ : ∀ r J, fr SC FC I J → Q r r J) : C_X10_fits_0 e (nI 0) v2 I L (fun r J => C_X11_fits_73 e (nI 0) v2 J L (fun r' K => Q r r' K)) := by
  have hC2 := hC
  have hM2 := hM
  have hk2 := hk
  obtain ⟨c0, c1, c2, c3, c4, c5, c6, c7, c8, cS, cD, cN, cA, cT, cM, cR, cF, cO, cH, cL⟩ := hC
  obtain ⟨m0, m1, m2, m3, m4, m5, mS, mU, mL, mF, mO, mH, mA, mK⟩ := hM
  obtain ⟨o0, oT, oZ, oY, oD, o9, oN, o28, oB, oX, oE, oF, oA, oH, oU, oV⟩ := hk
  have f0 : fr SC FC I (va_up I 73 (va_up (I 73) 0 (nI 0))) := fr_73 (fr_refl _ _ _) rfl
  have n3 : (0 : Nat) ≤ 3 := by decide
  have q3 : (0 ≤ 3) = True := eq_true n3
  have q4 : ((-2 : Int32) = nI 0) = False := eq_false (by decide)
  have q6 : ((-6 : Int32) = nI 0) = False := eq_false (by decide)
  rcases crs v2 (t 0 0) (by omega) with ax | ⟨ax, dx⟩ | ⟨x, hx, rfl⟩
  · (refine b_X10_fits_0_c0 (b_X10_walkAsSeen_0_c0 ?_); simp (disch := omega) only [pk_mul, nI_add, ksub, kdv, kd8, kd64, kd2, kd3, km8, km64, kt8, ke8, ke64, kcl, kin, kle, klt, keq, up_s, up_n, up_u, true_and, and_true, false_implies, true_implies, not_false_eq_true, not_true_eq_false, c0, ax, q4]; refine b_X11_fits_73 (b_X11_whyNotSeen_73 ?_); simp (disch := omega) only [pk_mul, nI_add, ksub, kdv, kd8, kd64, kd2, kd3, km8, km64, kt8, ke8, ke64, kcl, kin, kle, klt, keq, up_s, up_n, up_u, true_and, and_true, false_implies, true_implies, not_false_eq_true, not_true_eq_false, m1, kzl, kcz, kl3, q3, knl, ax, q4]; exact hQ _ _ f0)
  · (refine b_X10_fits_0_c0 (b_X10_walkAsSeen_0_c0 ?_); simp (disch := omega) only [pk_mul, nI_add, ksub, kdv, kd8, kd64, kd2, kd3, km8, km64, kt8, ke8, ke64, kcl, kin, kle, klt, keq, up_s, up_n, up_u, true_and, and_true, false_implies, true_implies, not_false_eq_true, not_true_eq_false, c0, ax, dx, q4]; refine b_X11_fits_73 (b_X11_whyNotSeen_73 ?_); simp (disch := omega) only [pk_mul, nI_add, ksub, kdv, kd8, kd64, kd2, kd3, km8, km64, kt8, ke8, ke64, kcl, kin, kle, klt, keq, up_s, up_n, up_u, true_and, and_true, false_implies, true_implies, not_false_eq_true, not_true_eq_false, m1, kzl, kcz, kl3, q3, knl, ax, dx, q4]; exact hQ _ _ f0)
  · have gx : (t 0 0 ≤ x) = False := eq_false (by omega)
    rcases hS 0 (by decide) with ⟨z1, z2⟩ | ⟨w, c, hw, hc, z1, z2, z3, z4, z5, z6⟩
    · change I 29 1 = nI 0 at z1
      have qT : ((0 : Nat) = 0) = True := eq_true rfl
      have qM : ((-1 : Int32) = (-1 : Int32)) = True := eq_true rfl
      refine b_X10_fits_0_c0 (b_X10_walkAsSeen_0_c0 ?_)
      simp (disch := omega) only [pk_mul, nI_add, ksub, kdv, kd8, kd64, kd2, kd3, km8, km64, kt8, ke8, ke64, kcl, kin, kle, klt, keq, up_s, up_n, up_u, true_and, and_true, false_implies, true_implies, not_false_eq_true, not_true_eq_false, c0, gx, knl, z1, qT, q6]
      refine b_X11_fits_73 (b_X11_whyNotSeen_73 ?_)
      simp (disch := omega) only [pk_mul, nI_add, ksub, kdv, kd8, kd64, kd2, kd3, km8, km64, kt8, ke8, ke64, kcl, kin, kle, klt, keq, up_s, up_n, up_u, true_and, and_true, false_implies, true_implies, not_false_eq_true, not_true_eq_false, m1, kzl, kcz, kl3, q3, knl, gx, z2, qM, q6]
      exact hQ _ _ f0
    · change I 29 1 = nI 1 at z1
      change I 29 2 = nI w at z2
      change I 29 3 = nI c at z3
      have z6' : ∀ k, k < c → L 76 (60 * 0 + k) = L 30 k := fun k hk => (z6 k hk).symm
      have qF : ((1 : Nat) = 0) = False := eq_false (by decide)
      have qm := km1 (n := w) (by omega)
      by_cases hc3 : c % 3 = 0
      · have qc := eq_true hc3
        by_cases hc24 : c ≤ 24
        · have qd := eq_true hc24
          have qe : (8 < c / 3) = False := eq_false (by omega)
          refine b_X10_fits_0_c0 (b_X10_walkAsSeen_0_c0 ?_)
          simp (disch := omega) only [pk_mul, nI_add, ksub, kdv, kd8, kd64, kd2, kd3, km8, km64, kt8, ke8, ke64, kcl, kin, kle, klt, keq, up_s, up_n, up_u, true_and, and_true, false_implies, true_implies, not_false_eq_true, not_true_eq_false, c0, gx, knl, z1, qF, z3, qc, qe]
          have hmbad : ∀ J, fr [2] [] I J → (¬ ∃ g : Nat → Nat, (∀ k, k < c → g k < t 0 0 ∧ L 30 k = lN (g k)) ∧ ∀ j, j < c / 3 → tB t (tri g j) = true) → C_X11_fits_73 e (nI 0) (nI x) J L (fun r' K => Q (-2 : Int32) r' K) := by
            intro J fJ hno
            have MJ := fr_MT fJ hM2 rfl
            have m1J := MJ.2.1
            have z4J : J 74 0 = nI w := by rw [fJ.1 74 (by decide) (by decide)]; exact z4
            have z5J : J 75 0 = nI c := by rw [fJ.1 75 (by decide) (by decide)]; exact z5
            refine b_X11_fits_73 (b_X11_whyNotSeen_73 ?_)
            simp (disch := omega) only [pk_mul, nI_add, ksub, kdv, kd8, kd64, kd2, kd3, km8, km64, kt8, ke8, ke64, kcl, kin, kle, klt, keq, up_s, up_n, up_u, true_and, and_true, false_implies, true_implies, not_false_eq_true, not_true_eq_false, m1J, kzl, kcz, kl3, q3, knl, gx, z4J, qm, z5J, qc, qd]
            refine c_whyNotSeen (f := L 30) (MT_0 MJ) hk2 (by decide) z5J hc24 hc3 z6' (fun g hg ht => absurd ⟨g, hg, ht⟩ hno) (fun _ K fK => ?_)
            exact ⟨fun h => absurd h (by decide), fun _ => hQ _ _ (fr_q1 fJ fK rfl rfl rfl rfl)⟩
          refine c_areC_0 z3 hc c0 (fun hg => ?_) (fun hg => ?_)
          · refine ⟨fun h => absurd h (by decide), fun _ => ?_⟩
            have hex : ∃ g : Nat → Nat, ∀ k, k < c → g k < t 0 0 ∧ L 30 k = lN (g k) := by
              refine ⟨fun k => if h : k < c then Classical.choose (gdc_o o0 (hg k h)) else 0, fun k hk => ?_⟩
              show (if h : k < c then Classical.choose (gdc_o o0 (hg k h)) else 0) < _ ∧ _ = lN (if h : k < c then Classical.choose (gdc_o o0 (hg k h)) else 0)
              rw [dif_pos hk]
              exact Classical.choose_spec (gdc_o o0 (hg k hk))
            obtain ⟨g, hgg⟩ := hex
            refine c_countSeen_0 hC2 hk2 z3 hc24 hc3 (fun k hk => (hgg k hk).2) (fun k hk => (hgg k hk).1) (fun hT J fJ hJ => ?_) (fun hT J fJ => ?_)
            · refine ⟨fun h => absurd h (by decide), fun _ => ?_⟩
              have z3J : J 29 3 = nI c := by rw [fJ.1 29 (by decide) (by decide)]; exact z3
              obtain ⟨l1, l2⟩ := wkA_m (t 1) (c / 3 + 1) (sns g (c / 3)) x (by omega) (by omega)
              simp (disch := omega) only [pk_mul, nI_add, ksub, kdv, kd8, kd64, kd2, kd3, km8, km64, kt8, ke8, ke64, kcl, kin, kle, klt, keq, up_s, up_n, up_u, true_and, and_true, false_implies, true_implies, not_false_eq_true, not_true_eq_false, z3J]
              refine c_walkAll (nw := sns g (c / 3)) (fr_CT fJ hC2 rfl) hk2 (by omega) (by omega) (sns_b g (by omega)) (sns_z hT) hJ (fun K fK0 k1 k2 => ?_)
              have fK := fr_trans (fr_mono (S' := [2, 63, 64]) (F' := []) fJ rfl rfl) fK0
              have qz : ((0 : Nat) = 0) = True := eq_true rfl
              have MK := fr_MT fK hM2 rfl
              have m1K := MK.2.1
              have z4K : K 74 0 = nI w := by rw [fK.1 74 (by decide) (by decide)]; exact z4
              have z5K : K 75 0 = nI c := by rw [fK.1 75 (by decide) (by decide)]; exact z5
              have hm : ∀ Q2 : Int32 → (Nat → Nat → Int32) → Prop, (∀ N, fr SC FC I N → Q2 (nI (wkA (t 1) (c / 3 + 1) (sns g (c / 3)) x).length) N) → C_X11_fits_73 e (nI 0) (nI x) K L Q2 := by
                intro Q2 hQ2
                refine b_X11_fits_73 (b_X11_whyNotSeen_73 ?_)
                simp (disch := omega) only [pk_mul, nI_add, ksub, kdv, kd8, kd64, kd2, kd3, km8, km64, kt8, ke8, ke64, kcl, kin, kle, klt, keq, up_s, up_n, up_u, true_and, and_true, false_implies, true_implies, not_false_eq_true, not_true_eq_false, m1K, kzl, kcz, kl3, q3, knl, gx, z4K, qm, z5K, qc, qd]
                refine c_whyNotSeen (f := L 30) (MT_0 MK) hk2 (by decide) z5K hc24 hc3 z6' (fun g' hg' ht' N fN hN => ?_) (fun hno N fN => absurd ⟨g, hgg, hT⟩ hno)
                have hgq : ∀ k, k < c → g' k = g k := fun k hkc => by
                  have h5 := (hg' k hkc).2
                  rw [(hgg k hkc).2] at h5
                  exact ((lN_eq (by have := (hgg k hkc).1; omega) (by have := (hg' k hkc).1; omega)).mp h5).symm
                have hsq : ∀ k, sns g' (c / 3) k = sns g (c / 3) k := fun k => cn_c (fun j hj => by
                  unfold tri
                  rw [hgq _ (by omega), hgq _ (by omega), hgq _ (by omega)])
                refine ⟨fun _ => ?_, fun h => absurd rfl h⟩
                have z5N : N 75 0 = nI c := by rw [fN.1 75 (by decide) (by decide)]; exact z5K
                have MN := fr_MT fN (MT_0 MK) rfl
                have hrun := c_lays (e := e) (L := L) (t := t) (E := (-1 : Int32)) (n := c / 3 + 1) (x := x) (nw := sns g (c / 3)) (J := N) (Q := fun I5 => Q2 (I5 73 41) I5) hk2 (by omega) (by omega) MN (sns_b g (by omega)) (sns_z hT) (fun k hk5 => by rw [hN k hk5, hsq]) (fun N2 fN2 n1 n2 n3 => ?_)
                · simp (disch := omega) only [pk_mul, nI_add, ksub, kdv, kd8, kd64, kd2, kd3, km8, km64, kt8, ke8, ke64, kcl, kin, kle, klt, keq, up_s, up_n, up_u, true_and, and_true, false_implies, true_implies, not_false_eq_true, not_true_eq_false] at hrun
                  simp (disch := omega) only [pk_mul, nI_add, ksub, kdv, kd8, kd64, kd2, kd3, km8, km64, kt8, ke8, ke64, kcl, kin, kle, klt, keq, up_s, up_n, up_u, true_and, and_true, false_implies, true_implies, not_false_eq_true, not_true_eq_false, z5N]
                  exact hrun
                · have fN3 := fr_q1 fK (fr_trans (fr_mono (S' := [87, 96]) (F' := [40, 41, 42, 43]) fN rfl rfl) fN2) rfl rfl rfl rfl
                  rw [n1, wkM_n]
                  exact hQ2 _ fN3
              refine c_sumW (c := fun y => (wq (wkA (t 1) (c / 3 + 1) (sns g (c / 3)) x) y).length) k1 ?_
              rw [wq_sm (fun q hq => (l1 q hq).1)]
              exact hm _ (fun N fN => hQ _ _ fN)
            · refine ⟨fun _ => ?_, fun h => absurd rfl h⟩
              simp (disch := omega) only [pk_mul, nI_add, ksub, kdv, kd8, kd64, kd2, kd3, km8, km64, kt8, ke8, ke64, kcl, kin, kle, klt, keq, up_s, up_n, up_u, true_and, and_true, false_implies, true_implies, not_false_eq_true, not_true_eq_false, q4]
              refine hmbad J fJ (fun h9 => hT ?_)
              obtain ⟨g', hg', ht'⟩ := h9
              intro j hj
              have hgq : ∀ k, k < c → g' k = g k := fun k hkc => by
                have h5 := (hg' k hkc).2
                rw [(hgg k hkc).2] at h5
                exact ((lN_eq (by have := (hgg k hkc).1; omega) (by have := (hg' k hkc).1; omega)).mp h5).symm
              have h6 := ht' j hj
              unfold tri at h6 ⊢
              rw [hgq _ (by omega), hgq _ (by omega), hgq _ (by omega)] at h6
              exact h6
          · refine ⟨fun _ => ?_, fun h => absurd rfl h⟩
            simp (disch := omega) only [pk_mul, nI_add, ksub, kdv, kd8, kd64, kd2, kd3, km8, km64, kt8, ke8, ke64, kcl, kin, kle, klt, keq, up_s, up_n, up_u, true_and, and_true, false_implies, true_implies, not_false_eq_true, not_true_eq_false, q4]
            refine hmbad I (fr_refl _ _ _) (fun h9 => hg (fun k hkc => ?_))
            obtain ⟨g', hg', ht'⟩ := h9
            obtain ⟨h5, h6⟩ := hg' k hkc
            rw [gdc_i, h6, nI_l (by omega), Int64.lt_iff_toInt_lt, Int64.lt_iff_toInt_lt, lN_toInt (by omega), lN_toInt (by omega)]
            have h7 : (0 : Int64).toInt = 0 := rfl
            omega
        · have qd := eq_false hc24
          have qe : (8 < c / 3) = True := eq_true (by omega)
          refine b_X10_fits_0_c0 (b_X10_walkAsSeen_0_c0 ?_)
          simp (disch := omega) only [pk_mul, nI_add, ksub, kdv, kd8, kd64, kd2, kd3, km8, km64, kt8, ke8, ke64, kcl, kin, kle, klt, keq, up_s, up_n, up_u, true_and, and_true, false_implies, true_implies, not_false_eq_true, not_true_eq_false, c0, gx, knl, z1, qF, z3, qc, qe, q4]
          refine b_X11_fits_73 (b_X11_whyNotSeen_73 ?_)
          simp (disch := omega) only [pk_mul, nI_add, ksub, kdv, kd8, kd64, kd2, kd3, km8, km64, kt8, ke8, ke64, kcl, kin, kle, klt, keq, up_s, up_n, up_u, true_and, and_true, false_implies, true_implies, not_false_eq_true, not_true_eq_false, m1, kzl, kcz, kl3, q3, knl, gx, z4, qm, z5, qc, qd, q4]
          exact hQ _ _ f0
      · have qc := eq_false hc3
        refine b_X10_fits_0_c0 (b_X10_walkAsSeen_0_c0 ?_)
        simp (disch := omega) only [pk_mul, nI_add, ksub, kdv, kd8, kd64, kd2, kd3, km8, km64, kt8, ke8, ke64, kcl, kin, kle, klt, keq, up_s, up_n, up_u, true_and, and_true, false_implies, true_implies, not_false_eq_true, not_true_eq_false, c0, gx, knl, z1, qF, z3, qc, q4]
        refine b_X11_fits_73 (b_X11_whyNotSeen_73 ?_)
        simp (disch := omega) only [pk_mul, nI_add, ksub, kdv, kd8, kd64, kd2, kd3, km8, km64, kt8, ke8, ke64, kcl, kin, kle, klt, keq, up_s, up_n, up_u, true_and, and_true, false_implies, true_implies, not_false_eq_true, not_true_eq_false, m1, kzl, kcz, kl3, q3, knl, gx, z4, qm, z5, qc, q4]
        exact hQ _ _ f0
theorem q_fits_1 {e : am_V} {I : Nat → Nat → Int32} {L : Nat → Nat → Int64} {t : tw} {Q : Int32 → Int32 → (Nat → Nat → Int32) → Prop} {v2 : Int32} (hC : CT t I) (hM : MT t I) (hk : tok t) (hS : SL I L) (hQ : ∀ r J, fr SC FC I J → Q r r J) : C_X10_fits_0 e (nI 1) v2 I L (fun r J => C_X11_fits_73 e (nI 1) v2 J L (fun r' K => Q r r' K)) := by
  have hC2 := hC
  have hM2 := hM
  have hk2 := hk
  obtain ⟨c0, c1, c2, c3, c4, c5, c6, c7, c8, cS, cD, cN, cA, cT, cM, cR, cF, cO, cH, cL⟩ := hC
  obtain ⟨m0, m1, m2, m3, m4, m5, mS, mU, mL, mF, mO, mH, mA, mK⟩ := hM
  obtain ⟨o0, oT, oZ, oY, oD, o9, oN, o28, oB, oX, oE, oF, oA, oH, oU, oV⟩ := hk
  have f0 : fr SC FC I (va_up I 73 (va_up (I 73) 0 (nI 0))) := fr_73 (fr_refl _ _ _) rfl
  have n3 : (1 : Nat) ≤ 3 := by decide
  have q3 : (1 ≤ 3) = True := eq_true n3
  have q4 : ((-2 : Int32) = nI 0) = False := eq_false (by decide)
  have q6 : ((-6 : Int32) = nI 0) = False := eq_false (by decide)
  rcases crs v2 (t 0 0) (by omega) with ax | ⟨ax, dx⟩ | ⟨x, hx, rfl⟩
  · (refine b_X10_fits_0_c1 (b_X10_walkAsSeen_0_c1 ?_); simp (disch := omega) only [pk_mul, nI_add, ksub, kdv, kd8, kd64, kd2, kd3, km8, km64, kt8, ke8, ke64, kcl, kin, kle, klt, keq, up_s, up_n, up_u, true_and, and_true, false_implies, true_implies, not_false_eq_true, not_true_eq_false, c0, ax, q4]; refine b_X11_fits_73 (b_X11_whyNotSeen_73 ?_); simp (disch := omega) only [pk_mul, nI_add, ksub, kdv, kd8, kd64, kd2, kd3, km8, km64, kt8, ke8, ke64, kcl, kin, kle, klt, keq, up_s, up_n, up_u, true_and, and_true, false_implies, true_implies, not_false_eq_true, not_true_eq_false, m1, kzl, kcz, kl3, q3, knl, ax, q4]; exact hQ _ _ f0)
  · (refine b_X10_fits_0_c1 (b_X10_walkAsSeen_0_c1 ?_); simp (disch := omega) only [pk_mul, nI_add, ksub, kdv, kd8, kd64, kd2, kd3, km8, km64, kt8, ke8, ke64, kcl, kin, kle, klt, keq, up_s, up_n, up_u, true_and, and_true, false_implies, true_implies, not_false_eq_true, not_true_eq_false, c0, ax, dx, q4]; refine b_X11_fits_73 (b_X11_whyNotSeen_73 ?_); simp (disch := omega) only [pk_mul, nI_add, ksub, kdv, kd8, kd64, kd2, kd3, km8, km64, kt8, ke8, ke64, kcl, kin, kle, klt, keq, up_s, up_n, up_u, true_and, and_true, false_implies, true_implies, not_false_eq_true, not_true_eq_false, m1, kzl, kcz, kl3, q3, knl, ax, dx, q4]; exact hQ _ _ f0)
  · have gx : (t 0 0 ≤ x) = False := eq_false (by omega)
    rcases hS 1 (by decide) with ⟨z1, z2⟩ | ⟨w, c, hw, hc, z1, z2, z3, z4, z5, z6⟩
    · change I 31 1 = nI 0 at z1
      have qT : ((0 : Nat) = 0) = True := eq_true rfl
      have qM : ((-1 : Int32) = (-1 : Int32)) = True := eq_true rfl
      refine b_X10_fits_0_c1 (b_X10_walkAsSeen_0_c1 ?_)
      simp (disch := omega) only [pk_mul, nI_add, ksub, kdv, kd8, kd64, kd2, kd3, km8, km64, kt8, ke8, ke64, kcl, kin, kle, klt, keq, up_s, up_n, up_u, true_and, and_true, false_implies, true_implies, not_false_eq_true, not_true_eq_false, c0, gx, knl, z1, qT, q6]
      refine b_X11_fits_73 (b_X11_whyNotSeen_73 ?_)
      simp (disch := omega) only [pk_mul, nI_add, ksub, kdv, kd8, kd64, kd2, kd3, km8, km64, kt8, ke8, ke64, kcl, kin, kle, klt, keq, up_s, up_n, up_u, true_and, and_true, false_implies, true_implies, not_false_eq_true, not_true_eq_false, m1, kzl, kcz, kl3, q3, knl, gx, z2, qM, q6]
      exact hQ _ _ f0
    · change I 31 1 = nI 1 at z1
      change I 31 2 = nI w at z2
      change I 31 3 = nI c at z3
      have z6' : ∀ k, k < c → L 76 (60 * 1 + k) = L 32 k := fun k hk => (z6 k hk).symm
      have qF : ((1 : Nat) = 0) = False := eq_false (by decide)
      have qm := km1 (n := w) (by omega)
      by_cases hc3 : c % 3 = 0
      · have qc := eq_true hc3
        by_cases hc24 : c ≤ 24
        · have qd := eq_true hc24
          have qe : (8 < c / 3) = False := eq_false (by omega)
          refine b_X10_fits_0_c1 (b_X10_walkAsSeen_0_c1 ?_)
          simp (disch := omega) only [pk_mul, nI_add, ksub, kdv, kd8, kd64, kd2, kd3, km8, km64, kt8, ke8, ke64, kcl, kin, kle, klt, keq, up_s, up_n, up_u, true_and, and_true, false_implies, true_implies, not_false_eq_true, not_true_eq_false, c0, gx, knl, z1, qF, z3, qc, qe]
          have hmbad : ∀ J, fr [2] [] I J → (¬ ∃ g : Nat → Nat, (∀ k, k < c → g k < t 0 0 ∧ L 32 k = lN (g k)) ∧ ∀ j, j < c / 3 → tB t (tri g j) = true) → C_X11_fits_73 e (nI 1) (nI x) J L (fun r' K => Q (-2 : Int32) r' K) := by
            intro J fJ hno
            have MJ := fr_MT fJ hM2 rfl
            have m1J := MJ.2.1
            have z4J : J 74 1 = nI w := by rw [fJ.1 74 (by decide) (by decide)]; exact z4
            have z5J : J 75 1 = nI c := by rw [fJ.1 75 (by decide) (by decide)]; exact z5
            refine b_X11_fits_73 (b_X11_whyNotSeen_73 ?_)
            simp (disch := omega) only [pk_mul, nI_add, ksub, kdv, kd8, kd64, kd2, kd3, km8, km64, kt8, ke8, ke64, kcl, kin, kle, klt, keq, up_s, up_n, up_u, true_and, and_true, false_implies, true_implies, not_false_eq_true, not_true_eq_false, m1J, kzl, kcz, kl3, q3, knl, gx, z4J, qm, z5J, qc, qd]
            refine c_whyNotSeen (f := L 32) (MT_0 MJ) hk2 (by decide) z5J hc24 hc3 z6' (fun g hg ht => absurd ⟨g, hg, ht⟩ hno) (fun _ K fK => ?_)
            exact ⟨fun h => absurd h (by decide), fun _ => hQ _ _ (fr_q1 fJ fK rfl rfl rfl rfl)⟩
          refine c_areC_1 z3 hc c0 (fun hg => ?_) (fun hg => ?_)
          · refine ⟨fun h => absurd h (by decide), fun _ => ?_⟩
            have hex : ∃ g : Nat → Nat, ∀ k, k < c → g k < t 0 0 ∧ L 32 k = lN (g k) := by
              refine ⟨fun k => if h : k < c then Classical.choose (gdc_o o0 (hg k h)) else 0, fun k hk => ?_⟩
              show (if h : k < c then Classical.choose (gdc_o o0 (hg k h)) else 0) < _ ∧ _ = lN (if h : k < c then Classical.choose (gdc_o o0 (hg k h)) else 0)
              rw [dif_pos hk]
              exact Classical.choose_spec (gdc_o o0 (hg k hk))
            obtain ⟨g, hgg⟩ := hex
            refine c_countSeen_1 hC2 hk2 z3 hc24 hc3 (fun k hk => (hgg k hk).2) (fun k hk => (hgg k hk).1) (fun hT J fJ hJ => ?_) (fun hT J fJ => ?_)
            · refine ⟨fun h => absurd h (by decide), fun _ => ?_⟩
              have z3J : J 31 3 = nI c := by rw [fJ.1 31 (by decide) (by decide)]; exact z3
              obtain ⟨l1, l2⟩ := wkA_m (t 1) (c / 3 + 1) (sns g (c / 3)) x (by omega) (by omega)
              simp (disch := omega) only [pk_mul, nI_add, ksub, kdv, kd8, kd64, kd2, kd3, km8, km64, kt8, ke8, ke64, kcl, kin, kle, klt, keq, up_s, up_n, up_u, true_and, and_true, false_implies, true_implies, not_false_eq_true, not_true_eq_false, z3J]
              refine c_walkAll (nw := sns g (c / 3)) (fr_CT fJ hC2 rfl) hk2 (by omega) (by omega) (sns_b g (by omega)) (sns_z hT) hJ (fun K fK0 k1 k2 => ?_)
              have fK := fr_trans (fr_mono (S' := [2, 63, 64]) (F' := []) fJ rfl rfl) fK0
              have qz : ((0 : Nat) = 0) = True := eq_true rfl
              have MK := fr_MT fK hM2 rfl
              have m1K := MK.2.1
              have z4K : K 74 1 = nI w := by rw [fK.1 74 (by decide) (by decide)]; exact z4
              have z5K : K 75 1 = nI c := by rw [fK.1 75 (by decide) (by decide)]; exact z5
              have hm : ∀ Q2 : Int32 → (Nat → Nat → Int32) → Prop, (∀ N, fr SC FC I N → Q2 (nI (wkA (t 1) (c / 3 + 1) (sns g (c / 3)) x).length) N) → C_X11_fits_73 e (nI 1) (nI x) K L Q2 := by
                intro Q2 hQ2
                refine b_X11_fits_73 (b_X11_whyNotSeen_73 ?_)
                simp (disch := omega) only [pk_mul, nI_add, ksub, kdv, kd8, kd64, kd2, kd3, km8, km64, kt8, ke8, ke64, kcl, kin, kle, klt, keq, up_s, up_n, up_u, true_and, and_true, false_implies, true_implies, not_false_eq_true, not_true_eq_false, m1K, kzl, kcz, kl3, q3, knl, gx, z4K, qm, z5K, qc, qd]
                refine c_whyNotSeen (f := L 32) (MT_0 MK) hk2 (by decide) z5K hc24 hc3 z6' (fun g' hg' ht' N fN hN => ?_) (fun hno N fN => absurd ⟨g, hgg, hT⟩ hno)
                have hgq : ∀ k, k < c → g' k = g k := fun k hkc => by
                  have h5 := (hg' k hkc).2
                  rw [(hgg k hkc).2] at h5
                  exact ((lN_eq (by have := (hgg k hkc).1; omega) (by have := (hg' k hkc).1; omega)).mp h5).symm
                have hsq : ∀ k, sns g' (c / 3) k = sns g (c / 3) k := fun k => cn_c (fun j hj => by
                  unfold tri
                  rw [hgq _ (by omega), hgq _ (by omega), hgq _ (by omega)])
                refine ⟨fun _ => ?_, fun h => absurd rfl h⟩
                have z5N : N 75 1 = nI c := by rw [fN.1 75 (by decide) (by decide)]; exact z5K
                have MN := fr_MT fN (MT_0 MK) rfl
                have hrun := c_lays (e := e) (L := L) (t := t) (E := (-1 : Int32)) (n := c / 3 + 1) (x := x) (nw := sns g (c / 3)) (J := N) (Q := fun I5 => Q2 (I5 73 41) I5) hk2 (by omega) (by omega) MN (sns_b g (by omega)) (sns_z hT) (fun k hk5 => by rw [hN k hk5, hsq]) (fun N2 fN2 n1 n2 n3 => ?_)
                · simp (disch := omega) only [pk_mul, nI_add, ksub, kdv, kd8, kd64, kd2, kd3, km8, km64, kt8, ke8, ke64, kcl, kin, kle, klt, keq, up_s, up_n, up_u, true_and, and_true, false_implies, true_implies, not_false_eq_true, not_true_eq_false] at hrun
                  simp (disch := omega) only [pk_mul, nI_add, ksub, kdv, kd8, kd64, kd2, kd3, km8, km64, kt8, ke8, ke64, kcl, kin, kle, klt, keq, up_s, up_n, up_u, true_and, and_true, false_implies, true_implies, not_false_eq_true, not_true_eq_false, z5N]
                  exact hrun
                · have fN3 := fr_q1 fK (fr_trans (fr_mono (S' := [87, 96]) (F' := [40, 41, 42, 43]) fN rfl rfl) fN2) rfl rfl rfl rfl
                  rw [n1, wkM_n]
                  exact hQ2 _ fN3
              refine c_sumW (c := fun y => (wq (wkA (t 1) (c / 3 + 1) (sns g (c / 3)) x) y).length) k1 ?_
              rw [wq_sm (fun q hq => (l1 q hq).1)]
              exact hm _ (fun N fN => hQ _ _ fN)
            · refine ⟨fun _ => ?_, fun h => absurd rfl h⟩
              simp (disch := omega) only [pk_mul, nI_add, ksub, kdv, kd8, kd64, kd2, kd3, km8, km64, kt8, ke8, ke64, kcl, kin, kle, klt, keq, up_s, up_n, up_u, true_and, and_true, false_implies, true_implies, not_false_eq_true, not_true_eq_false, q4]
              refine hmbad J fJ (fun h9 => hT ?_)
              obtain ⟨g', hg', ht'⟩ := h9
              intro j hj
              have hgq : ∀ k, k < c → g' k = g k := fun k hkc => by
                have h5 := (hg' k hkc).2
                rw [(hgg k hkc).2] at h5
                exact ((lN_eq (by have := (hgg k hkc).1; omega) (by have := (hg' k hkc).1; omega)).mp h5).symm
              have h6 := ht' j hj
              unfold tri at h6 ⊢
              rw [hgq _ (by omega), hgq _ (by omega), hgq _ (by omega)] at h6
              exact h6
          · refine ⟨fun _ => ?_, fun h => absurd rfl h⟩
            simp (disch := omega) only [pk_mul, nI_add, ksub, kdv, kd8, kd64, kd2, kd3, km8, km64, kt8, ke8, ke64, kcl, kin, kle, klt, keq, up_s, up_n, up_u, true_and, and_true, false_implies, true_implies, not_false_eq_true, not_true_eq_false, q4]
            refine hmbad I (fr_refl _ _ _) (fun h9 => hg (fun k hkc => ?_))
            obtain ⟨g', hg', ht'⟩ := h9
            obtain ⟨h5, h6⟩ := hg' k hkc
            rw [gdc_i, h6, nI_l (by omega), Int64.lt_iff_toInt_lt, Int64.lt_iff_toInt_lt, lN_toInt (by omega), lN_toInt (by omega)]
            have h7 : (0 : Int64).toInt = 0 := rfl
            omega
        · have qd := eq_false hc24
          have qe : (8 < c / 3) = True := eq_true (by omega)
          refine b_X10_fits_0_c1 (b_X10_walkAsSeen_0_c1 ?_)
          simp (disch := omega) only [pk_mul, nI_add, ksub, kdv, kd8, kd64, kd2, kd3, km8, km64, kt8, ke8, ke64, kcl, kin, kle, klt, keq, up_s, up_n, up_u, true_and, and_true, false_implies, true_implies, not_false_eq_true, not_true_eq_false, c0, gx, knl, z1, qF, z3, qc, qe, q4]
          refine b_X11_fits_73 (b_X11_whyNotSeen_73 ?_)
          simp (disch := omega) only [pk_mul, nI_add, ksub, kdv, kd8, kd64, kd2, kd3, km8, km64, kt8, ke8, ke64, kcl, kin, kle, klt, keq, up_s, up_n, up_u, true_and, and_true, false_implies, true_implies, not_false_eq_true, not_true_eq_false, m1, kzl, kcz, kl3, q3, knl, gx, z4, qm, z5, qc, qd, q4]
          exact hQ _ _ f0
      · have qc := eq_false hc3
        refine b_X10_fits_0_c1 (b_X10_walkAsSeen_0_c1 ?_)
        simp (disch := omega) only [pk_mul, nI_add, ksub, kdv, kd8, kd64, kd2, kd3, km8, km64, kt8, ke8, ke64, kcl, kin, kle, klt, keq, up_s, up_n, up_u, true_and, and_true, false_implies, true_implies, not_false_eq_true, not_true_eq_false, c0, gx, knl, z1, qF, z3, qc, q4]
        refine b_X11_fits_73 (b_X11_whyNotSeen_73 ?_)
        simp (disch := omega) only [pk_mul, nI_add, ksub, kdv, kd8, kd64, kd2, kd3, km8, km64, kt8, ke8, ke64, kcl, kin, kle, klt, keq, up_s, up_n, up_u, true_and, and_true, false_implies, true_implies, not_false_eq_true, not_true_eq_false, m1, kzl, kcz, kl3, q3, knl, gx, z4, qm, z5, qc, q4]
        exact hQ _ _ f0
theorem q_fits_2 {e : am_V} {I : Nat → Nat → Int32} {L : Nat → Nat → Int64} {t : tw} {Q : Int32 → Int32 → (Nat → Nat → Int32) → Prop} {v2 : Int32} (hC : CT t I) (hM : MT t I) (hk : tok t) (hS : SL I L) (hQ : ∀ r J, fr SC FC I J → Q r r J) : C_X10_fits_0 e (nI 2) v2 I L (fun r J => C_X11_fits_73 e (nI 2) v2 J L (fun r' K => Q r r' K)) := by
  have hC2 := hC
  have hM2 := hM
  have hk2 := hk
  obtain ⟨c0, c1, c2, c3, c4, c5, c6, c7, c8, cS, cD, cN, cA, cT, cM, cR, cF, cO, cH, cL⟩ := hC
  obtain ⟨m0, m1, m2, m3, m4, m5, mS, mU, mL, mF, mO, mH, mA, mK⟩ := hM
  obtain ⟨o0, oT, oZ, oY, oD, o9, oN, o28, oB, oX, oE, oF, oA, oH, oU, oV⟩ := hk
  have f0 : fr SC FC I (va_up I 73 (va_up (I 73) 0 (nI 0))) := fr_73 (fr_refl _ _ _) rfl
  have n3 : (2 : Nat) ≤ 3 := by decide
  have q3 : (2 ≤ 3) = True := eq_true n3
  have q4 : ((-2 : Int32) = nI 0) = False := eq_false (by decide)
  have q6 : ((-6 : Int32) = nI 0) = False := eq_false (by decide)
  rcases crs v2 (t 0 0) (by omega) with ax | ⟨ax, dx⟩ | ⟨x, hx, rfl⟩
  · (refine b_X10_fits_0_c2 (b_X10_walkAsSeen_0_c2 ?_); simp (disch := omega) only [pk_mul, nI_add, ksub, kdv, kd8, kd64, kd2, kd3, km8, km64, kt8, ke8, ke64, kcl, kin, kle, klt, keq, up_s, up_n, up_u, true_and, and_true, false_implies, true_implies, not_false_eq_true, not_true_eq_false, c0, ax, q4]; refine b_X11_fits_73 (b_X11_whyNotSeen_73 ?_); simp (disch := omega) only [pk_mul, nI_add, ksub, kdv, kd8, kd64, kd2, kd3, km8, km64, kt8, ke8, ke64, kcl, kin, kle, klt, keq, up_s, up_n, up_u, true_and, and_true, false_implies, true_implies, not_false_eq_true, not_true_eq_false, m1, kzl, kcz, kl3, q3, knl, ax, q4]; exact hQ _ _ f0)
  · (refine b_X10_fits_0_c2 (b_X10_walkAsSeen_0_c2 ?_); simp (disch := omega) only [pk_mul, nI_add, ksub, kdv, kd8, kd64, kd2, kd3, km8, km64, kt8, ke8, ke64, kcl, kin, kle, klt, keq, up_s, up_n, up_u, true_and, and_true, false_implies, true_implies, not_false_eq_true, not_true_eq_false, c0, ax, dx, q4]; refine b_X11_fits_73 (b_X11_whyNotSeen_73 ?_); simp (disch := omega) only [pk_mul, nI_add, ksub, kdv, kd8, kd64, kd2, kd3, km8, km64, kt8, ke8, ke64, kcl, kin, kle, klt, keq, up_s, up_n, up_u, true_and, and_true, false_implies, true_implies, not_false_eq_true, not_true_eq_false, m1, kzl, kcz, kl3, q3, knl, ax, dx, q4]; exact hQ _ _ f0)
  · have gx : (t 0 0 ≤ x) = False := eq_false (by omega)
    rcases hS 2 (by decide) with ⟨z1, z2⟩ | ⟨w, c, hw, hc, z1, z2, z3, z4, z5, z6⟩
    · change I 33 1 = nI 0 at z1
      have qT : ((0 : Nat) = 0) = True := eq_true rfl
      have qM : ((-1 : Int32) = (-1 : Int32)) = True := eq_true rfl
      refine b_X10_fits_0_c2 (b_X10_walkAsSeen_0_c2 ?_)
      simp (disch := omega) only [pk_mul, nI_add, ksub, kdv, kd8, kd64, kd2, kd3, km8, km64, kt8, ke8, ke64, kcl, kin, kle, klt, keq, up_s, up_n, up_u, true_and, and_true, false_implies, true_implies, not_false_eq_true, not_true_eq_false, c0, gx, knl, z1, qT, q6]
      refine b_X11_fits_73 (b_X11_whyNotSeen_73 ?_)
      simp (disch := omega) only [pk_mul, nI_add, ksub, kdv, kd8, kd64, kd2, kd3, km8, km64, kt8, ke8, ke64, kcl, kin, kle, klt, keq, up_s, up_n, up_u, true_and, and_true, false_implies, true_implies, not_false_eq_true, not_true_eq_false, m1, kzl, kcz, kl3, q3, knl, gx, z2, qM, q6]
      exact hQ _ _ f0
    · change I 33 1 = nI 1 at z1
      change I 33 2 = nI w at z2
      change I 33 3 = nI c at z3
      have z6' : ∀ k, k < c → L 76 (60 * 2 + k) = L 34 k := fun k hk => (z6 k hk).symm
      have qF : ((1 : Nat) = 0) = False := eq_false (by decide)
      have qm := km1 (n := w) (by omega)
      by_cases hc3 : c % 3 = 0
      · have qc := eq_true hc3
        by_cases hc24 : c ≤ 24
        · have qd := eq_true hc24
          have qe : (8 < c / 3) = False := eq_false (by omega)
          refine b_X10_fits_0_c2 (b_X10_walkAsSeen_0_c2 ?_)
          simp (disch := omega) only [pk_mul, nI_add, ksub, kdv, kd8, kd64, kd2, kd3, km8, km64, kt8, ke8, ke64, kcl, kin, kle, klt, keq, up_s, up_n, up_u, true_and, and_true, false_implies, true_implies, not_false_eq_true, not_true_eq_false, c0, gx, knl, z1, qF, z3, qc, qe]
          have hmbad : ∀ J, fr [2] [] I J → (¬ ∃ g : Nat → Nat, (∀ k, k < c → g k < t 0 0 ∧ L 34 k = lN (g k)) ∧ ∀ j, j < c / 3 → tB t (tri g j) = true) → C_X11_fits_73 e (nI 2) (nI x) J L (fun r' K => Q (-2 : Int32) r' K) := by
            intro J fJ hno
            have MJ := fr_MT fJ hM2 rfl
            have m1J := MJ.2.1
            have z4J : J 74 2 = nI w := by rw [fJ.1 74 (by decide) (by decide)]; exact z4
            have z5J : J 75 2 = nI c := by rw [fJ.1 75 (by decide) (by decide)]; exact z5
            refine b_X11_fits_73 (b_X11_whyNotSeen_73 ?_)
            simp (disch := omega) only [pk_mul, nI_add, ksub, kdv, kd8, kd64, kd2, kd3, km8, km64, kt8, ke8, ke64, kcl, kin, kle, klt, keq, up_s, up_n, up_u, true_and, and_true, false_implies, true_implies, not_false_eq_true, not_true_eq_false, m1J, kzl, kcz, kl3, q3, knl, gx, z4J, qm, z5J, qc, qd]
            refine c_whyNotSeen (f := L 34) (MT_0 MJ) hk2 (by decide) z5J hc24 hc3 z6' (fun g hg ht => absurd ⟨g, hg, ht⟩ hno) (fun _ K fK => ?_)
            exact ⟨fun h => absurd h (by decide), fun _ => hQ _ _ (fr_q1 fJ fK rfl rfl rfl rfl)⟩
          refine c_areC_2 z3 hc c0 (fun hg => ?_) (fun hg => ?_)
          · refine ⟨fun h => absurd h (by decide), fun _ => ?_⟩
            have hex : ∃ g : Nat → Nat, ∀ k, k < c → g k < t 0 0 ∧ L 34 k = lN (g k) := by
              refine ⟨fun k => if h : k < c then Classical.choose (gdc_o o0 (hg k h)) else 0, fun k hk => ?_⟩
              show (if h : k < c then Classical.choose (gdc_o o0 (hg k h)) else 0) < _ ∧ _ = lN (if h : k < c then Classical.choose (gdc_o o0 (hg k h)) else 0)
              rw [dif_pos hk]
              exact Classical.choose_spec (gdc_o o0 (hg k hk))
            obtain ⟨g, hgg⟩ := hex
            refine c_countSeen_2 hC2 hk2 z3 hc24 hc3 (fun k hk => (hgg k hk).2) (fun k hk => (hgg k hk).1) (fun hT J fJ hJ => ?_) (fun hT J fJ => ?_)
            · refine ⟨fun h => absurd h (by decide), fun _ => ?_⟩
              have z3J : J 33 3 = nI c := by rw [fJ.1 33 (by decide) (by decide)]; exact z3
              obtain ⟨l1, l2⟩ := wkA_m (t 1) (c / 3 + 1) (sns g (c / 3)) x (by omega) (by omega)
              simp (disch := omega) only [pk_mul, nI_add, ksub, kdv, kd8, kd64, kd2, kd3, km8, km64, kt8, ke8, ke64, kcl, kin, kle, klt, keq, up_s, up_n, up_u, true_and, and_true, false_implies, true_implies, not_false_eq_true, not_true_eq_false, z3J]
              refine c_walkAll (nw := sns g (c / 3)) (fr_CT fJ hC2 rfl) hk2 (by omega) (by omega) (sns_b g (by omega)) (sns_z hT) hJ (fun K fK0 k1 k2 => ?_)
              have fK := fr_trans (fr_mono (S' := [2, 63, 64]) (F' := []) fJ rfl rfl) fK0
              have qz : ((0 : Nat) = 0) = True := eq_true rfl
              have MK := fr_MT fK hM2 rfl
              have m1K := MK.2.1
              have z4K : K 74 2 = nI w := by rw [fK.1 74 (by decide) (by decide)]; exact z4
              have z5K : K 75 2 = nI c := by rw [fK.1 75 (by decide) (by decide)]; exact z5
              have hm : ∀ Q2 : Int32 → (Nat → Nat → Int32) → Prop, (∀ N, fr SC FC I N → Q2 (nI (wkA (t 1) (c / 3 + 1) (sns g (c / 3)) x).length) N) → C_X11_fits_73 e (nI 2) (nI x) K L Q2 := by
                intro Q2 hQ2
                refine b_X11_fits_73 (b_X11_whyNotSeen_73 ?_)
                simp (disch := omega) only [pk_mul, nI_add, ksub, kdv, kd8, kd64, kd2, kd3, km8, km64, kt8, ke8, ke64, kcl, kin, kle, klt, keq, up_s, up_n, up_u, true_and, and_true, false_implies, true_implies, not_false_eq_true, not_true_eq_false, m1K, kzl, kcz, kl3, q3, knl, gx, z4K, qm, z5K, qc, qd]
                refine c_whyNotSeen (f := L 34) (MT_0 MK) hk2 (by decide) z5K hc24 hc3 z6' (fun g' hg' ht' N fN hN => ?_) (fun hno N fN => absurd ⟨g, hgg, hT⟩ hno)
                have hgq : ∀ k, k < c → g' k = g k := fun k hkc => by
                  have h5 := (hg' k hkc).2
                  rw [(hgg k hkc).2] at h5
                  exact ((lN_eq (by have := (hgg k hkc).1; omega) (by have := (hg' k hkc).1; omega)).mp h5).symm
                have hsq : ∀ k, sns g' (c / 3) k = sns g (c / 3) k := fun k => cn_c (fun j hj => by
                  unfold tri
                  rw [hgq _ (by omega), hgq _ (by omega), hgq _ (by omega)])
                refine ⟨fun _ => ?_, fun h => absurd rfl h⟩
                have z5N : N 75 2 = nI c := by rw [fN.1 75 (by decide) (by decide)]; exact z5K
                have MN := fr_MT fN (MT_0 MK) rfl
                have hrun := c_lays (e := e) (L := L) (t := t) (E := (-1 : Int32)) (n := c / 3 + 1) (x := x) (nw := sns g (c / 3)) (J := N) (Q := fun I5 => Q2 (I5 73 41) I5) hk2 (by omega) (by omega) MN (sns_b g (by omega)) (sns_z hT) (fun k hk5 => by rw [hN k hk5, hsq]) (fun N2 fN2 n1 n2 n3 => ?_)
                · simp (disch := omega) only [pk_mul, nI_add, ksub, kdv, kd8, kd64, kd2, kd3, km8, km64, kt8, ke8, ke64, kcl, kin, kle, klt, keq, up_s, up_n, up_u, true_and, and_true, false_implies, true_implies, not_false_eq_true, not_true_eq_false] at hrun
                  simp (disch := omega) only [pk_mul, nI_add, ksub, kdv, kd8, kd64, kd2, kd3, km8, km64, kt8, ke8, ke64, kcl, kin, kle, klt, keq, up_s, up_n, up_u, true_and, and_true, false_implies, true_implies, not_false_eq_true, not_true_eq_false, z5N]
                  exact hrun
                · have fN3 := fr_q1 fK (fr_trans (fr_mono (S' := [87, 96]) (F' := [40, 41, 42, 43]) fN rfl rfl) fN2) rfl rfl rfl rfl
                  rw [n1, wkM_n]
                  exact hQ2 _ fN3
              refine c_sumW (c := fun y => (wq (wkA (t 1) (c / 3 + 1) (sns g (c / 3)) x) y).length) k1 ?_
              rw [wq_sm (fun q hq => (l1 q hq).1)]
              exact hm _ (fun N fN => hQ _ _ fN)
            · refine ⟨fun _ => ?_, fun h => absurd rfl h⟩
              simp (disch := omega) only [pk_mul, nI_add, ksub, kdv, kd8, kd64, kd2, kd3, km8, km64, kt8, ke8, ke64, kcl, kin, kle, klt, keq, up_s, up_n, up_u, true_and, and_true, false_implies, true_implies, not_false_eq_true, not_true_eq_false, q4]
              refine hmbad J fJ (fun h9 => hT ?_)
              obtain ⟨g', hg', ht'⟩ := h9
              intro j hj
              have hgq : ∀ k, k < c → g' k = g k := fun k hkc => by
                have h5 := (hg' k hkc).2
                rw [(hgg k hkc).2] at h5
                exact ((lN_eq (by have := (hgg k hkc).1; omega) (by have := (hg' k hkc).1; omega)).mp h5).symm
              have h6 := ht' j hj
              unfold tri at h6 ⊢
              rw [hgq _ (by omega), hgq _ (by omega), hgq _ (by omega)] at h6
              exact h6
          · refine ⟨fun _ => ?_, fun h => absurd rfl h⟩
            simp (disch := omega) only [pk_mul, nI_add, ksub, kdv, kd8, kd64, kd2, kd3, km8, km64, kt8, ke8, ke64, kcl, kin, kle, klt, keq, up_s, up_n, up_u, true_and, and_true, false_implies, true_implies, not_false_eq_true, not_true_eq_false, q4]
            refine hmbad I (fr_refl _ _ _) (fun h9 => hg (fun k hkc => ?_))
            obtain ⟨g', hg', ht'⟩ := h9
            obtain ⟨h5, h6⟩ := hg' k hkc
            rw [gdc_i, h6, nI_l (by omega), Int64.lt_iff_toInt_lt, Int64.lt_iff_toInt_lt, lN_toInt (by omega), lN_toInt (by omega)]
            have h7 : (0 : Int64).toInt = 0 := rfl
            omega
        · have qd := eq_false hc24
          have qe : (8 < c / 3) = True := eq_true (by omega)
          refine b_X10_fits_0_c2 (b_X10_walkAsSeen_0_c2 ?_)
          simp (disch := omega) only [pk_mul, nI_add, ksub, kdv, kd8, kd64, kd2, kd3, km8, km64, kt8, ke8, ke64, kcl, kin, kle, klt, keq, up_s, up_n, up_u, true_and, and_true, false_implies, true_implies, not_false_eq_true, not_true_eq_false, c0, gx, knl, z1, qF, z3, qc, qe, q4]
          refine b_X11_fits_73 (b_X11_whyNotSeen_73 ?_)
          simp (disch := omega) only [pk_mul, nI_add, ksub, kdv, kd8, kd64, kd2, kd3, km8, km64, kt8, ke8, ke64, kcl, kin, kle, klt, keq, up_s, up_n, up_u, true_and, and_true, false_implies, true_implies, not_false_eq_true, not_true_eq_false, m1, kzl, kcz, kl3, q3, knl, gx, z4, qm, z5, qc, qd, q4]
          exact hQ _ _ f0
      · have qc := eq_false hc3
        refine b_X10_fits_0_c2 (b_X10_walkAsSeen_0_c2 ?_)
        simp (disch := omega) only [pk_mul, nI_add, ksub, kdv, kd8, kd64, kd2, kd3, km8, km64, kt8, ke8, ke64, kcl, kin, kle, klt, keq, up_s, up_n, up_u, true_and, and_true, false_implies, true_implies, not_false_eq_true, not_true_eq_false, c0, gx, knl, z1, qF, z3, qc, q4]
        refine b_X11_fits_73 (b_X11_whyNotSeen_73 ?_)
        simp (disch := omega) only [pk_mul, nI_add, ksub, kdv, kd8, kd64, kd2, kd3, km8, km64, kt8, ke8, ke64, kcl, kin, kle, klt, keq, up_s, up_n, up_u, true_and, and_true, false_implies, true_implies, not_false_eq_true, not_true_eq_false, m1, kzl, kcz, kl3, q3, knl, gx, z4, qm, z5, qc, q4]
        exact hQ _ _ f0
theorem q_fits_3 {e : am_V} {I : Nat → Nat → Int32} {L : Nat → Nat → Int64} {t : tw} {Q : Int32 → Int32 → (Nat → Nat → Int32) → Prop} {v2 : Int32} (hC : CT t I) (hM : MT t I) (hk : tok t) (hS : SL I L) (hQ : ∀ r J, fr SC FC I J → Q r r J) : C_X10_fits_0 e (nI 3) v2 I L (fun r J => C_X11_fits_73 e (nI 3) v2 J L (fun r' K => Q r r' K)) := by
  have hC2 := hC
  have hM2 := hM
  have hk2 := hk
  obtain ⟨c0, c1, c2, c3, c4, c5, c6, c7, c8, cS, cD, cN, cA, cT, cM, cR, cF, cO, cH, cL⟩ := hC
  obtain ⟨m0, m1, m2, m3, m4, m5, mS, mU, mL, mF, mO, mH, mA, mK⟩ := hM
  obtain ⟨o0, oT, oZ, oY, oD, o9, oN, o28, oB, oX, oE, oF, oA, oH, oU, oV⟩ := hk
  have f0 : fr SC FC I (va_up I 73 (va_up (I 73) 0 (nI 0))) := fr_73 (fr_refl _ _ _) rfl
  have n3 : (3 : Nat) ≤ 3 := by decide
  have q3 : (3 ≤ 3) = True := eq_true n3
  have q4 : ((-2 : Int32) = nI 0) = False := eq_false (by decide)
  have q6 : ((-6 : Int32) = nI 0) = False := eq_false (by decide)
  rcases crs v2 (t 0 0) (by omega) with ax | ⟨ax, dx⟩ | ⟨x, hx, rfl⟩
  · (refine b_X10_fits_0_c3 (b_X10_walkAsSeen_0_c3 ?_); simp (disch := omega) only [pk_mul, nI_add, ksub, kdv, kd8, kd64, kd2, kd3, km8, km64, kt8, ke8, ke64, kcl, kin, kle, klt, keq, up_s, up_n, up_u, true_and, and_true, false_implies, true_implies, not_false_eq_true, not_true_eq_false, c0, ax, q4]; refine b_X11_fits_73 (b_X11_whyNotSeen_73 ?_); simp (disch := omega) only [pk_mul, nI_add, ksub, kdv, kd8, kd64, kd2, kd3, km8, km64, kt8, ke8, ke64, kcl, kin, kle, klt, keq, up_s, up_n, up_u, true_and, and_true, false_implies, true_implies, not_false_eq_true, not_true_eq_false, m1, kzl, kcz, kl3, q3, knl, ax, q4]; exact hQ _ _ f0)
  · (refine b_X10_fits_0_c3 (b_X10_walkAsSeen_0_c3 ?_); simp (disch := omega) only [pk_mul, nI_add, ksub, kdv, kd8, kd64, kd2, kd3, km8, km64, kt8, ke8, ke64, kcl, kin, kle, klt, keq, up_s, up_n, up_u, true_and, and_true, false_implies, true_implies, not_false_eq_true, not_true_eq_false, c0, ax, dx, q4]; refine b_X11_fits_73 (b_X11_whyNotSeen_73 ?_); simp (disch := omega) only [pk_mul, nI_add, ksub, kdv, kd8, kd64, kd2, kd3, km8, km64, kt8, ke8, ke64, kcl, kin, kle, klt, keq, up_s, up_n, up_u, true_and, and_true, false_implies, true_implies, not_false_eq_true, not_true_eq_false, m1, kzl, kcz, kl3, q3, knl, ax, dx, q4]; exact hQ _ _ f0)
  · have gx : (t 0 0 ≤ x) = False := eq_false (by omega)
    rcases hS 3 (by decide) with ⟨z1, z2⟩ | ⟨w, c, hw, hc, z1, z2, z3, z4, z5, z6⟩
    · change I 35 1 = nI 0 at z1
      have qT : ((0 : Nat) = 0) = True := eq_true rfl
      have qM : ((-1 : Int32) = (-1 : Int32)) = True := eq_true rfl
      refine b_X10_fits_0_c3 (b_X10_walkAsSeen_0_c3 ?_)
      simp (disch := omega) only [pk_mul, nI_add, ksub, kdv, kd8, kd64, kd2, kd3, km8, km64, kt8, ke8, ke64, kcl, kin, kle, klt, keq, up_s, up_n, up_u, true_and, and_true, false_implies, true_implies, not_false_eq_true, not_true_eq_false, c0, gx, knl, z1, qT, q6]
      refine b_X11_fits_73 (b_X11_whyNotSeen_73 ?_)
      simp (disch := omega) only [pk_mul, nI_add, ksub, kdv, kd8, kd64, kd2, kd3, km8, km64, kt8, ke8, ke64, kcl, kin, kle, klt, keq, up_s, up_n, up_u, true_and, and_true, false_implies, true_implies, not_false_eq_true, not_true_eq_false, m1, kzl, kcz, kl3, q3, knl, gx, z2, qM, q6]
      exact hQ _ _ f0
    · change I 35 1 = nI 1 at z1
      change I 35 2 = nI w at z2
      change I 35 3 = nI c at z3
      have z6' : ∀ k, k < c → L 76 (60 * 3 + k) = L 36 k := fun k hk => (z6 k hk).symm
      have qF : ((1 : Nat) = 0) = False := eq_false (by decide)
      have qm := km1 (n := w) (by omega)
      by_cases hc3 : c % 3 = 0
      · have qc := eq_true hc3
        by_cases hc24 : c ≤ 24
        · have qd := eq_true hc24
          have qe : (8 < c / 3) = False := eq_false (by omega)
          refine b_X10_fits_0_c3 (b_X10_walkAsSeen_0_c3 ?_)
          simp (disch := omega) only [pk_mul, nI_add, ksub, kdv, kd8, kd64, kd2, kd3, km8, km64, kt8, ke8, ke64, kcl, kin, kle, klt, keq, up_s, up_n, up_u, true_and, and_true, false_implies, true_implies, not_false_eq_true, not_true_eq_false, c0, gx, knl, z1, qF, z3, qc, qe]
          have hmbad : ∀ J, fr [2] [] I J → (¬ ∃ g : Nat → Nat, (∀ k, k < c → g k < t 0 0 ∧ L 36 k = lN (g k)) ∧ ∀ j, j < c / 3 → tB t (tri g j) = true) → C_X11_fits_73 e (nI 3) (nI x) J L (fun r' K => Q (-2 : Int32) r' K) := by
            intro J fJ hno
            have MJ := fr_MT fJ hM2 rfl
            have m1J := MJ.2.1
            have z4J : J 74 3 = nI w := by rw [fJ.1 74 (by decide) (by decide)]; exact z4
            have z5J : J 75 3 = nI c := by rw [fJ.1 75 (by decide) (by decide)]; exact z5
            refine b_X11_fits_73 (b_X11_whyNotSeen_73 ?_)
            simp (disch := omega) only [pk_mul, nI_add, ksub, kdv, kd8, kd64, kd2, kd3, km8, km64, kt8, ke8, ke64, kcl, kin, kle, klt, keq, up_s, up_n, up_u, true_and, and_true, false_implies, true_implies, not_false_eq_true, not_true_eq_false, m1J, kzl, kcz, kl3, q3, knl, gx, z4J, qm, z5J, qc, qd]
            refine c_whyNotSeen (f := L 36) (MT_0 MJ) hk2 (by decide) z5J hc24 hc3 z6' (fun g hg ht => absurd ⟨g, hg, ht⟩ hno) (fun _ K fK => ?_)
            exact ⟨fun h => absurd h (by decide), fun _ => hQ _ _ (fr_q1 fJ fK rfl rfl rfl rfl)⟩
          refine c_areC_3 z3 hc c0 (fun hg => ?_) (fun hg => ?_)
          · refine ⟨fun h => absurd h (by decide), fun _ => ?_⟩
            have hex : ∃ g : Nat → Nat, ∀ k, k < c → g k < t 0 0 ∧ L 36 k = lN (g k) := by
              refine ⟨fun k => if h : k < c then Classical.choose (gdc_o o0 (hg k h)) else 0, fun k hk => ?_⟩
              show (if h : k < c then Classical.choose (gdc_o o0 (hg k h)) else 0) < _ ∧ _ = lN (if h : k < c then Classical.choose (gdc_o o0 (hg k h)) else 0)
              rw [dif_pos hk]
              exact Classical.choose_spec (gdc_o o0 (hg k hk))
            obtain ⟨g, hgg⟩ := hex
            refine c_countSeen_3 hC2 hk2 z3 hc24 hc3 (fun k hk => (hgg k hk).2) (fun k hk => (hgg k hk).1) (fun hT J fJ hJ => ?_) (fun hT J fJ => ?_)
            · refine ⟨fun h => absurd h (by decide), fun _ => ?_⟩
              have z3J : J 35 3 = nI c := by rw [fJ.1 35 (by decide) (by decide)]; exact z3
              obtain ⟨l1, l2⟩ := wkA_m (t 1) (c / 3 + 1) (sns g (c / 3)) x (by omega) (by omega)
              simp (disch := omega) only [pk_mul, nI_add, ksub, kdv, kd8, kd64, kd2, kd3, km8, km64, kt8, ke8, ke64, kcl, kin, kle, klt, keq, up_s, up_n, up_u, true_and, and_true, false_implies, true_implies, not_false_eq_true, not_true_eq_false, z3J]
              refine c_walkAll (nw := sns g (c / 3)) (fr_CT fJ hC2 rfl) hk2 (by omega) (by omega) (sns_b g (by omega)) (sns_z hT) hJ (fun K fK0 k1 k2 => ?_)
              have fK := fr_trans (fr_mono (S' := [2, 63, 64]) (F' := []) fJ rfl rfl) fK0
              have qz : ((0 : Nat) = 0) = True := eq_true rfl
              have MK := fr_MT fK hM2 rfl
              have m1K := MK.2.1
              have z4K : K 74 3 = nI w := by rw [fK.1 74 (by decide) (by decide)]; exact z4
              have z5K : K 75 3 = nI c := by rw [fK.1 75 (by decide) (by decide)]; exact z5
              have hm : ∀ Q2 : Int32 → (Nat → Nat → Int32) → Prop, (∀ N, fr SC FC I N → Q2 (nI (wkA (t 1) (c / 3 + 1) (sns g (c / 3)) x).length) N) → C_X11_fits_73 e (nI 3) (nI x) K L Q2 := by
                intro Q2 hQ2
                refine b_X11_fits_73 (b_X11_whyNotSeen_73 ?_)
                simp (disch := omega) only [pk_mul, nI_add, ksub, kdv, kd8, kd64, kd2, kd3, km8, km64, kt8, ke8, ke64, kcl, kin, kle, klt, keq, up_s, up_n, up_u, true_and, and_true, false_implies, true_implies, not_false_eq_true, not_true_eq_false, m1K, kzl, kcz, kl3, q3, knl, gx, z4K, qm, z5K, qc, qd]
                refine c_whyNotSeen (f := L 36) (MT_0 MK) hk2 (by decide) z5K hc24 hc3 z6' (fun g' hg' ht' N fN hN => ?_) (fun hno N fN => absurd ⟨g, hgg, hT⟩ hno)
                have hgq : ∀ k, k < c → g' k = g k := fun k hkc => by
                  have h5 := (hg' k hkc).2
                  rw [(hgg k hkc).2] at h5
                  exact ((lN_eq (by have := (hgg k hkc).1; omega) (by have := (hg' k hkc).1; omega)).mp h5).symm
                have hsq : ∀ k, sns g' (c / 3) k = sns g (c / 3) k := fun k => cn_c (fun j hj => by
                  unfold tri
                  rw [hgq _ (by omega), hgq _ (by omega), hgq _ (by omega)])
                refine ⟨fun _ => ?_, fun h => absurd rfl h⟩
                have z5N : N 75 3 = nI c := by rw [fN.1 75 (by decide) (by decide)]; exact z5K
                have MN := fr_MT fN (MT_0 MK) rfl
                have hrun := c_lays (e := e) (L := L) (t := t) (E := (-1 : Int32)) (n := c / 3 + 1) (x := x) (nw := sns g (c / 3)) (J := N) (Q := fun I5 => Q2 (I5 73 41) I5) hk2 (by omega) (by omega) MN (sns_b g (by omega)) (sns_z hT) (fun k hk5 => by rw [hN k hk5, hsq]) (fun N2 fN2 n1 n2 n3 => ?_)
                · simp (disch := omega) only [pk_mul, nI_add, ksub, kdv, kd8, kd64, kd2, kd3, km8, km64, kt8, ke8, ke64, kcl, kin, kle, klt, keq, up_s, up_n, up_u, true_and, and_true, false_implies, true_implies, not_false_eq_true, not_true_eq_false] at hrun
                  simp (disch := omega) only [pk_mul, nI_add, ksub, kdv, kd8, kd64, kd2, kd3, km8, km64, kt8, ke8, ke64, kcl, kin, kle, klt, keq, up_s, up_n, up_u, true_and, and_true, false_implies, true_implies, not_false_eq_true, not_true_eq_false, z5N]
                  exact hrun
                · have fN3 := fr_q1 fK (fr_trans (fr_mono (S' := [87, 96]) (F' := [40, 41, 42, 43]) fN rfl rfl) fN2) rfl rfl rfl rfl
                  rw [n1, wkM_n]
                  exact hQ2 _ fN3
              refine c_sumW (c := fun y => (wq (wkA (t 1) (c / 3 + 1) (sns g (c / 3)) x) y).length) k1 ?_
              rw [wq_sm (fun q hq => (l1 q hq).1)]
              exact hm _ (fun N fN => hQ _ _ fN)
            · refine ⟨fun _ => ?_, fun h => absurd rfl h⟩
              simp (disch := omega) only [pk_mul, nI_add, ksub, kdv, kd8, kd64, kd2, kd3, km8, km64, kt8, ke8, ke64, kcl, kin, kle, klt, keq, up_s, up_n, up_u, true_and, and_true, false_implies, true_implies, not_false_eq_true, not_true_eq_false, q4]
              refine hmbad J fJ (fun h9 => hT ?_)
              obtain ⟨g', hg', ht'⟩ := h9
              intro j hj
              have hgq : ∀ k, k < c → g' k = g k := fun k hkc => by
                have h5 := (hg' k hkc).2
                rw [(hgg k hkc).2] at h5
                exact ((lN_eq (by have := (hgg k hkc).1; omega) (by have := (hg' k hkc).1; omega)).mp h5).symm
              have h6 := ht' j hj
              unfold tri at h6 ⊢
              rw [hgq _ (by omega), hgq _ (by omega), hgq _ (by omega)] at h6
              exact h6
          · refine ⟨fun _ => ?_, fun h => absurd rfl h⟩
            simp (disch := omega) only [pk_mul, nI_add, ksub, kdv, kd8, kd64, kd2, kd3, km8, km64, kt8, ke8, ke64, kcl, kin, kle, klt, keq, up_s, up_n, up_u, true_and, and_true, false_implies, true_implies, not_false_eq_true, not_true_eq_false, q4]
            refine hmbad I (fr_refl _ _ _) (fun h9 => hg (fun k hkc => ?_))
            obtain ⟨g', hg', ht'⟩ := h9
            obtain ⟨h5, h6⟩ := hg' k hkc
            rw [gdc_i, h6, nI_l (by omega), Int64.lt_iff_toInt_lt, Int64.lt_iff_toInt_lt, lN_toInt (by omega), lN_toInt (by omega)]
            have h7 : (0 : Int64).toInt = 0 := rfl
            omega
        · have qd := eq_false hc24
          have qe : (8 < c / 3) = True := eq_true (by omega)
          refine b_X10_fits_0_c3 (b_X10_walkAsSeen_0_c3 ?_)
          simp (disch := omega) only [pk_mul, nI_add, ksub, kdv, kd8, kd64, kd2, kd3, km8, km64, kt8, ke8, ke64, kcl, kin, kle, klt, keq, up_s, up_n, up_u, true_and, and_true, false_implies, true_implies, not_false_eq_true, not_true_eq_false, c0, gx, knl, z1, qF, z3, qc, qe, q4]
          refine b_X11_fits_73 (b_X11_whyNotSeen_73 ?_)
          simp (disch := omega) only [pk_mul, nI_add, ksub, kdv, kd8, kd64, kd2, kd3, km8, km64, kt8, ke8, ke64, kcl, kin, kle, klt, keq, up_s, up_n, up_u, true_and, and_true, false_implies, true_implies, not_false_eq_true, not_true_eq_false, m1, kzl, kcz, kl3, q3, knl, gx, z4, qm, z5, qc, qd, q4]
          exact hQ _ _ f0
      · have qc := eq_false hc3
        refine b_X10_fits_0_c3 (b_X10_walkAsSeen_0_c3 ?_)
        simp (disch := omega) only [pk_mul, nI_add, ksub, kdv, kd8, kd64, kd2, kd3, km8, km64, kt8, ke8, ke64, kcl, kin, kle, klt, keq, up_s, up_n, up_u, true_and, and_true, false_implies, true_implies, not_false_eq_true, not_true_eq_false, c0, gx, knl, z1, qF, z3, qc, q4]
        refine b_X11_fits_73 (b_X11_whyNotSeen_73 ?_)
        simp (disch := omega) only [pk_mul, nI_add, ksub, kdv, kd8, kd64, kd2, kd3, km8, km64, kt8, ke8, ke64, kcl, kin, kle, klt, keq, up_s, up_n, up_u, true_and, and_true, false_implies, true_implies, not_false_eq_true, not_true_eq_false, m1, kzl, kcz, kl3, q3, knl, gx, z4, qm, z5, qc, q4]
        exact hQ _ _ f0
theorem q_gone_0 {e : am_V} {I : Nat → Nat → Int32} {L : Nat → Nat → Int64} {t : tw} {Q : Int32 → Int32 → (Nat → Nat → Int32) → Prop} {v2 : Int32} (hC : CT t I) (hM : MT t I) (hk : tok t) (hS : SL I L) (hQ : ∀ r J, fr SC FC I J → Q r r J) : C_X10_gone_0 e (nI 0) v2 I L (fun r J => C_X11_gone_73 e (nI 0) v2 J L (fun r' K => Q r r' K)) := by
  have hC2 := hC
  have hM2 := hM
  have hk2 := hk
  obtain ⟨c0, c1, c2, c3, c4, c5, c6, c7, c8, cS, cD, cN, cA, cT, cM, cR, cF, cO, cH, cL⟩ := hC
  obtain ⟨m0, m1, m2, m3, m4, m5, mS, mU, mL, mF, mO, mH, mA, mK⟩ := hM
  obtain ⟨o0, oT, oZ, oY, oD, o9, oN, o28, oB, oX, oE, oF, oA, oH, oU, oV⟩ := hk
  have f0 : fr SC FC I (va_up I 73 (va_up (I 73) 0 (nI 0))) := fr_73 (fr_refl _ _ _) rfl
  have n3 : (0 : Nat) ≤ 3 := by decide
  have q3 : (0 ≤ 3) = True := eq_true n3
  have q4 : ((-2 : Int32) = nI 0) = False := eq_false (by decide)
  have q6 : ((-6 : Int32) = nI 0) = False := eq_false (by decide)
  rcases crs v2 (t 0 0) (by omega) with ax | ⟨ax, dx⟩ | ⟨x, hx, rfl⟩
  · (refine b_X10_gone_0_c0 (b_X10_walkAsSeen_0_c0 ?_); simp (disch := omega) only [pk_mul, nI_add, ksub, kdv, kd8, kd64, kd2, kd3, km8, km64, kt8, ke8, ke64, kcl, kin, kle, klt, keq, up_s, up_n, up_u, true_and, and_true, false_implies, true_implies, not_false_eq_true, not_true_eq_false, c0, ax, q4]; refine b_X11_gone_73 (b_X11_whyNotSeen_73 ?_); simp (disch := omega) only [pk_mul, nI_add, ksub, kdv, kd8, kd64, kd2, kd3, km8, km64, kt8, ke8, ke64, kcl, kin, kle, klt, keq, up_s, up_n, up_u, true_and, and_true, false_implies, true_implies, not_false_eq_true, not_true_eq_false, m1, kzl, kcz, kl3, q3, knl, ax, q4]; exact hQ _ _ f0)
  · (refine b_X10_gone_0_c0 (b_X10_walkAsSeen_0_c0 ?_); simp (disch := omega) only [pk_mul, nI_add, ksub, kdv, kd8, kd64, kd2, kd3, km8, km64, kt8, ke8, ke64, kcl, kin, kle, klt, keq, up_s, up_n, up_u, true_and, and_true, false_implies, true_implies, not_false_eq_true, not_true_eq_false, c0, ax, dx, q4]; refine b_X11_gone_73 (b_X11_whyNotSeen_73 ?_); simp (disch := omega) only [pk_mul, nI_add, ksub, kdv, kd8, kd64, kd2, kd3, km8, km64, kt8, ke8, ke64, kcl, kin, kle, klt, keq, up_s, up_n, up_u, true_and, and_true, false_implies, true_implies, not_false_eq_true, not_true_eq_false, m1, kzl, kcz, kl3, q3, knl, ax, dx, q4]; exact hQ _ _ f0)
  · have gx : (t 0 0 ≤ x) = False := eq_false (by omega)
    rcases hS 0 (by decide) with ⟨z1, z2⟩ | ⟨w, c, hw, hc, z1, z2, z3, z4, z5, z6⟩
    · change I 29 1 = nI 0 at z1
      have qT : ((0 : Nat) = 0) = True := eq_true rfl
      have qM : ((-1 : Int32) = (-1 : Int32)) = True := eq_true rfl
      refine b_X10_gone_0_c0 (b_X10_walkAsSeen_0_c0 ?_)
      simp (disch := omega) only [pk_mul, nI_add, ksub, kdv, kd8, kd64, kd2, kd3, km8, km64, kt8, ke8, ke64, kcl, kin, kle, klt, keq, up_s, up_n, up_u, true_and, and_true, false_implies, true_implies, not_false_eq_true, not_true_eq_false, c0, gx, knl, z1, qT, q6]
      refine b_X11_gone_73 (b_X11_whyNotSeen_73 ?_)
      simp (disch := omega) only [pk_mul, nI_add, ksub, kdv, kd8, kd64, kd2, kd3, km8, km64, kt8, ke8, ke64, kcl, kin, kle, klt, keq, up_s, up_n, up_u, true_and, and_true, false_implies, true_implies, not_false_eq_true, not_true_eq_false, m1, kzl, kcz, kl3, q3, knl, gx, z2, qM, q6]
      exact hQ _ _ f0
    · change I 29 1 = nI 1 at z1
      change I 29 2 = nI w at z2
      change I 29 3 = nI c at z3
      have z6' : ∀ k, k < c → L 76 (60 * 0 + k) = L 30 k := fun k hk => (z6 k hk).symm
      have qF : ((1 : Nat) = 0) = False := eq_false (by decide)
      have qm := km1 (n := w) (by omega)
      by_cases hc3 : c % 3 = 0
      · have qc := eq_true hc3
        by_cases hc24 : c ≤ 24
        · have qd := eq_true hc24
          have qe : (8 < c / 3) = False := eq_false (by omega)
          refine b_X10_gone_0_c0 (b_X10_walkAsSeen_0_c0 ?_)
          simp (disch := omega) only [pk_mul, nI_add, ksub, kdv, kd8, kd64, kd2, kd3, km8, km64, kt8, ke8, ke64, kcl, kin, kle, klt, keq, up_s, up_n, up_u, true_and, and_true, false_implies, true_implies, not_false_eq_true, not_true_eq_false, c0, gx, knl, z1, qF, z3, qc, qe]
          have hmbad : ∀ J, fr [2] [] I J → (¬ ∃ g : Nat → Nat, (∀ k, k < c → g k < t 0 0 ∧ L 30 k = lN (g k)) ∧ ∀ j, j < c / 3 → tB t (tri g j) = true) → C_X11_gone_73 e (nI 0) (nI x) J L (fun r' K => Q (-2 : Int32) r' K) := by
            intro J fJ hno
            have MJ := fr_MT fJ hM2 rfl
            have m1J := MJ.2.1
            have z4J : J 74 0 = nI w := by rw [fJ.1 74 (by decide) (by decide)]; exact z4
            have z5J : J 75 0 = nI c := by rw [fJ.1 75 (by decide) (by decide)]; exact z5
            refine b_X11_gone_73 (b_X11_whyNotSeen_73 ?_)
            simp (disch := omega) only [pk_mul, nI_add, ksub, kdv, kd8, kd64, kd2, kd3, km8, km64, kt8, ke8, ke64, kcl, kin, kle, klt, keq, up_s, up_n, up_u, true_and, and_true, false_implies, true_implies, not_false_eq_true, not_true_eq_false, m1J, kzl, kcz, kl3, q3, knl, gx, z4J, qm, z5J, qc, qd]
            refine c_whyNotSeen (f := L 30) (MT_0 MJ) hk2 (by decide) z5J hc24 hc3 z6' (fun g hg ht => absurd ⟨g, hg, ht⟩ hno) (fun _ K fK => ?_)
            exact ⟨fun h => absurd h (by decide), fun _ => hQ _ _ (fr_q1 fJ fK rfl rfl rfl rfl)⟩
          refine c_areC_0 z3 hc c0 (fun hg => ?_) (fun hg => ?_)
          · refine ⟨fun h => absurd h (by decide), fun _ => ?_⟩
            have hex : ∃ g : Nat → Nat, ∀ k, k < c → g k < t 0 0 ∧ L 30 k = lN (g k) := by
              refine ⟨fun k => if h : k < c then Classical.choose (gdc_o o0 (hg k h)) else 0, fun k hk => ?_⟩
              show (if h : k < c then Classical.choose (gdc_o o0 (hg k h)) else 0) < _ ∧ _ = lN (if h : k < c then Classical.choose (gdc_o o0 (hg k h)) else 0)
              rw [dif_pos hk]
              exact Classical.choose_spec (gdc_o o0 (hg k hk))
            obtain ⟨g, hgg⟩ := hex
            refine c_countSeen_0 hC2 hk2 z3 hc24 hc3 (fun k hk => (hgg k hk).2) (fun k hk => (hgg k hk).1) (fun hT J fJ hJ => ?_) (fun hT J fJ => ?_)
            · refine ⟨fun h => absurd h (by decide), fun _ => ?_⟩
              have z3J : J 29 3 = nI c := by rw [fJ.1 29 (by decide) (by decide)]; exact z3
              obtain ⟨l1, l2⟩ := wkA_m (t 1) (c / 3 + 1) (sns g (c / 3)) x (by omega) (by omega)
              simp (disch := omega) only [pk_mul, nI_add, ksub, kdv, kd8, kd64, kd2, kd3, km8, km64, kt8, ke8, ke64, kcl, kin, kle, klt, keq, up_s, up_n, up_u, true_and, and_true, false_implies, true_implies, not_false_eq_true, not_true_eq_false, z3J]
              refine c_walkAll (nw := sns g (c / 3)) (fr_CT fJ hC2 rfl) hk2 (by omega) (by omega) (sns_b g (by omega)) (sns_z hT) hJ (fun K fK0 k1 k2 => ?_)
              have fK := fr_trans (fr_mono (S' := [2, 63, 64]) (F' := []) fJ rfl rfl) fK0
              have qz : ((0 : Nat) = 0) = True := eq_true rfl
              have MK := fr_MT fK hM2 rfl
              have m1K := MK.2.1
              have z4K : K 74 0 = nI w := by rw [fK.1 74 (by decide) (by decide)]; exact z4
              have z5K : K 75 0 = nI c := by rw [fK.1 75 (by decide) (by decide)]; exact z5
              have hm : ∀ Q2 : Int32 → (Nat → Nat → Int32) → Prop, (∀ N, fr SC FC I N → Q2 (nI (bts (fun y => decide (0 < (wq (wkA (t 1) (c / 3 + 1) (sns g (c / 3)) x) y).length)) 8)) N) → C_X11_gone_73 e (nI 0) (nI x) K L Q2 := by
                intro Q2 hQ2
                refine b_X11_gone_73 (b_X11_whyNotSeen_73 ?_)
                simp (disch := omega) only [pk_mul, nI_add, ksub, kdv, kd8, kd64, kd2, kd3, km8, km64, kt8, ke8, ke64, kcl, kin, kle, klt, keq, up_s, up_n, up_u, true_and, and_true, false_implies, true_implies, not_false_eq_true, not_true_eq_false, m1K, kzl, kcz, kl3, q3, knl, gx, z4K, qm, z5K, qc, qd]
                refine c_whyNotSeen (f := L 30) (MT_0 MK) hk2 (by decide) z5K hc24 hc3 z6' (fun g' hg' ht' N fN hN => ?_) (fun hno N fN => absurd ⟨g, hgg, hT⟩ hno)
                have hgq : ∀ k, k < c → g' k = g k := fun k hkc => by
                  have h5 := (hg' k hkc).2
                  rw [(hgg k hkc).2] at h5
                  exact ((lN_eq (by have := (hgg k hkc).1; omega) (by have := (hg' k hkc).1; omega)).mp h5).symm
                have hsq : ∀ k, sns g' (c / 3) k = sns g (c / 3) k := fun k => cn_c (fun j hj => by
                  unfold tri
                  rw [hgq _ (by omega), hgq _ (by omega), hgq _ (by omega)])
                refine ⟨fun _ => ?_, fun h => absurd rfl h⟩
                have z5N : N 75 0 = nI c := by rw [fN.1 75 (by decide) (by decide)]; exact z5K
                have MN := fr_MT fN (MT_0 MK) rfl
                have hrun := c_lays (e := e) (L := L) (t := t) (E := (-1 : Int32)) (n := c / 3 + 1) (x := x) (nw := sns g (c / 3)) (J := N) (Q := fun I5 => Q2 (I5 73 43) I5) hk2 (by omega) (by omega) MN (sns_b g (by omega)) (sns_z hT) (fun k hk5 => by rw [hN k hk5, hsq]) (fun N2 fN2 n1 n2 n3 => ?_)
                · simp (disch := omega) only [pk_mul, nI_add, ksub, kdv, kd8, kd64, kd2, kd3, km8, km64, kt8, ke8, ke64, kcl, kin, kle, klt, keq, up_s, up_n, up_u, true_and, and_true, false_implies, true_implies, not_false_eq_true, not_true_eq_false] at hrun
                  simp (disch := omega) only [pk_mul, nI_add, ksub, kdv, kd8, kd64, kd2, kd3, km8, km64, kt8, ke8, ke64, kcl, kin, kle, klt, keq, up_s, up_n, up_u, true_and, and_true, false_implies, true_implies, not_false_eq_true, not_true_eq_false, z5N]
                  exact hrun
                · have fN3 := fr_q1 fK (fr_trans (fr_mono (S' := [87, 96]) (F' := [40, 41, 42, 43]) fN rfl rfl) fN2) rfl rfl rfl rfl
                  rw [n3, wkM_n, enr_e, eb_b (fun q hq => (l1 q hq).1)]
                  exact hQ2 _ fN3
              refine c_endBits (c := fun y => (wq (wkA (t 1) (c / 3 + 1) (sns g (c / 3)) x) y).length) k1 (fun y _ => by have := wq_le (wkA (t 1) (c / 3 + 1) (sns g (c / 3)) x) y; show (wq (wkA (t 1) (c / 3 + 1) (sns g (c / 3)) x) y).length < _; omega) ?_
              exact hm _ (fun N fN => hQ _ _ fN)
            · refine ⟨fun _ => ?_, fun h => absurd rfl h⟩
              simp (disch := omega) only [pk_mul, nI_add, ksub, kdv, kd8, kd64, kd2, kd3, km8, km64, kt8, ke8, ke64, kcl, kin, kle, klt, keq, up_s, up_n, up_u, true_and, and_true, false_implies, true_implies, not_false_eq_true, not_true_eq_false, q4]
              refine hmbad J fJ (fun h9 => hT ?_)
              obtain ⟨g', hg', ht'⟩ := h9
              intro j hj
              have hgq : ∀ k, k < c → g' k = g k := fun k hkc => by
                have h5 := (hg' k hkc).2
                rw [(hgg k hkc).2] at h5
                exact ((lN_eq (by have := (hgg k hkc).1; omega) (by have := (hg' k hkc).1; omega)).mp h5).symm
              have h6 := ht' j hj
              unfold tri at h6 ⊢
              rw [hgq _ (by omega), hgq _ (by omega), hgq _ (by omega)] at h6
              exact h6
          · refine ⟨fun _ => ?_, fun h => absurd rfl h⟩
            simp (disch := omega) only [pk_mul, nI_add, ksub, kdv, kd8, kd64, kd2, kd3, km8, km64, kt8, ke8, ke64, kcl, kin, kle, klt, keq, up_s, up_n, up_u, true_and, and_true, false_implies, true_implies, not_false_eq_true, not_true_eq_false, q4]
            refine hmbad I (fr_refl _ _ _) (fun h9 => hg (fun k hkc => ?_))
            obtain ⟨g', hg', ht'⟩ := h9
            obtain ⟨h5, h6⟩ := hg' k hkc
            rw [gdc_i, h6, nI_l (by omega), Int64.lt_iff_toInt_lt, Int64.lt_iff_toInt_lt, lN_toInt (by omega), lN_toInt (by omega)]
            have h7 : (0 : Int64).toInt = 0 := rfl
            omega
        · have qd := eq_false hc24
          have qe : (8 < c / 3) = True := eq_true (by omega)
          refine b_X10_gone_0_c0 (b_X10_walkAsSeen_0_c0 ?_)
          simp (disch := omega) only [pk_mul, nI_add, ksub, kdv, kd8, kd64, kd2, kd3, km8, km64, kt8, ke8, ke64, kcl, kin, kle, klt, keq, up_s, up_n, up_u, true_and, and_true, false_implies, true_implies, not_false_eq_true, not_true_eq_false, c0, gx, knl, z1, qF, z3, qc, qe, q4]
          refine b_X11_gone_73 (b_X11_whyNotSeen_73 ?_)
          simp (disch := omega) only [pk_mul, nI_add, ksub, kdv, kd8, kd64, kd2, kd3, km8, km64, kt8, ke8, ke64, kcl, kin, kle, klt, keq, up_s, up_n, up_u, true_and, and_true, false_implies, true_implies, not_false_eq_true, not_true_eq_false, m1, kzl, kcz, kl3, q3, knl, gx, z4, qm, z5, qc, qd, q4]
          exact hQ _ _ f0
      · have qc := eq_false hc3
        refine b_X10_gone_0_c0 (b_X10_walkAsSeen_0_c0 ?_)
        simp (disch := omega) only [pk_mul, nI_add, ksub, kdv, kd8, kd64, kd2, kd3, km8, km64, kt8, ke8, ke64, kcl, kin, kle, klt, keq, up_s, up_n, up_u, true_and, and_true, false_implies, true_implies, not_false_eq_true, not_true_eq_false, c0, gx, knl, z1, qF, z3, qc, q4]
        refine b_X11_gone_73 (b_X11_whyNotSeen_73 ?_)
        simp (disch := omega) only [pk_mul, nI_add, ksub, kdv, kd8, kd64, kd2, kd3, km8, km64, kt8, ke8, ke64, kcl, kin, kle, klt, keq, up_s, up_n, up_u, true_and, and_true, false_implies, true_implies, not_false_eq_true, not_true_eq_false, m1, kzl, kcz, kl3, q3, knl, gx, z4, qm, z5, qc, q4]
        exact hQ _ _ f0
theorem q_gone_1 {e : am_V} {I : Nat → Nat → Int32} {L : Nat → Nat → Int64} {t : tw} {Q : Int32 → Int32 → (Nat → Nat → Int32) → Prop} {v2 : Int32} (hC : CT t I) (hM : MT t I) (hk : tok t) (hS : SL I L) (hQ : ∀ r J, fr SC FC I J → Q r r J) : C_X10_gone_0 e (nI 1) v2 I L (fun r J => C_X11_gone_73 e (nI 1) v2 J L (fun r' K => Q r r' K)) := by
  have hC2 := hC
  have hM2 := hM
  have hk2 := hk
  obtain ⟨c0, c1, c2, c3, c4, c5, c6, c7, c8, cS, cD, cN, cA, cT, cM, cR, cF, cO, cH, cL⟩ := hC
  obtain ⟨m0, m1, m2, m3, m4, m5, mS, mU, mL, mF, mO, mH, mA, mK⟩ := hM
  obtain ⟨o0, oT, oZ, oY, oD, o9, oN, o28, oB, oX, oE, oF, oA, oH, oU, oV⟩ := hk
  have f0 : fr SC FC I (va_up I 73 (va_up (I 73) 0 (nI 0))) := fr_73 (fr_refl _ _ _) rfl
  have n3 : (1 : Nat) ≤ 3 := by decide
  have q3 : (1 ≤ 3) = True := eq_true n3
  have q4 : ((-2 : Int32) = nI 0) = False := eq_false (by decide)
  have q6 : ((-6 : Int32) = nI 0) = False := eq_false (by decide)
  rcases crs v2 (t 0 0) (by omega) with ax | ⟨ax, dx⟩ | ⟨x, hx, rfl⟩
  · (refine b_X10_gone_0_c1 (b_X10_walkAsSeen_0_c1 ?_); simp (disch := omega) only [pk_mul, nI_add, ksub, kdv, kd8, kd64, kd2, kd3, km8, km64, kt8, ke8, ke64, kcl, kin, kle, klt, keq, up_s, up_n, up_u, true_and, and_true, false_implies, true_implies, not_false_eq_true, not_true_eq_false, c0, ax, q4]; refine b_X11_gone_73 (b_X11_whyNotSeen_73 ?_); simp (disch := omega) only [pk_mul, nI_add, ksub, kdv, kd8, kd64, kd2, kd3, km8, km64, kt8, ke8, ke64, kcl, kin, kle, klt, keq, up_s, up_n, up_u, true_and, and_true, false_implies, true_implies, not_false_eq_true, not_true_eq_false, m1, kzl, kcz, kl3, q3, knl, ax, q4]; exact hQ _ _ f0)
  · (refine b_X10_gone_0_c1 (b_X10_walkAsSeen_0_c1 ?_); simp (disch := omega) only [pk_mul, nI_add, ksub, kdv, kd8, kd64, kd2, kd3, km8, km64, kt8, ke8, ke64, kcl, kin, kle, klt, keq, up_s, up_n, up_u, true_and, and_true, false_implies, true_implies, not_false_eq_true, not_true_eq_false, c0, ax, dx, q4]; refine b_X11_gone_73 (b_X11_whyNotSeen_73 ?_); simp (disch := omega) only [pk_mul, nI_add, ksub, kdv, kd8, kd64, kd2, kd3, km8, km64, kt8, ke8, ke64, kcl, kin, kle, klt, keq, up_s, up_n, up_u, true_and, and_true, false_implies, true_implies, not_false_eq_true, not_true_eq_false, m1, kzl, kcz, kl3, q3, knl, ax, dx, q4]; exact hQ _ _ f0)
  · have gx : (t 0 0 ≤ x) = False := eq_false (by omega)
    rcases hS 1 (by decide) with ⟨z1, z2⟩ | ⟨w, c, hw, hc, z1, z2, z3, z4, z5, z6⟩
    · change I 31 1 = nI 0 at z1
      have qT : ((0 : Nat) = 0) = True := eq_true rfl
      have qM : ((-1 : Int32) = (-1 : Int32)) = True := eq_true rfl
      refine b_X10_gone_0_c1 (b_X10_walkAsSeen_0_c1 ?_)
      simp (disch := omega) only [pk_mul, nI_add, ksub, kdv, kd8, kd64, kd2, kd3, km8, km64, kt8, ke8, ke64, kcl, kin, kle, klt, keq, up_s, up_n, up_u, true_and, and_true, false_implies, true_implies, not_false_eq_true, not_true_eq_false, c0, gx, knl, z1, qT, q6]
      refine b_X11_gone_73 (b_X11_whyNotSeen_73 ?_)
      simp (disch := omega) only [pk_mul, nI_add, ksub, kdv, kd8, kd64, kd2, kd3, km8, km64, kt8, ke8, ke64, kcl, kin, kle, klt, keq, up_s, up_n, up_u, true_and, and_true, false_implies, true_implies, not_false_eq_true, not_true_eq_false, m1, kzl, kcz, kl3, q3, knl, gx, z2, qM, q6]
      exact hQ _ _ f0
    · change I 31 1 = nI 1 at z1
      change I 31 2 = nI w at z2
      change I 31 3 = nI c at z3
      have z6' : ∀ k, k < c → L 76 (60 * 1 + k) = L 32 k := fun k hk => (z6 k hk).symm
      have qF : ((1 : Nat) = 0) = False := eq_false (by decide)
      have qm := km1 (n := w) (by omega)
      by_cases hc3 : c % 3 = 0
      · have qc := eq_true hc3
        by_cases hc24 : c ≤ 24
        · have qd := eq_true hc24
          have qe : (8 < c / 3) = False := eq_false (by omega)
          refine b_X10_gone_0_c1 (b_X10_walkAsSeen_0_c1 ?_)
          simp (disch := omega) only [pk_mul, nI_add, ksub, kdv, kd8, kd64, kd2, kd3, km8, km64, kt8, ke8, ke64, kcl, kin, kle, klt, keq, up_s, up_n, up_u, true_and, and_true, false_implies, true_implies, not_false_eq_true, not_true_eq_false, c0, gx, knl, z1, qF, z3, qc, qe]
          have hmbad : ∀ J, fr [2] [] I J → (¬ ∃ g : Nat → Nat, (∀ k, k < c → g k < t 0 0 ∧ L 32 k = lN (g k)) ∧ ∀ j, j < c / 3 → tB t (tri g j) = true) → C_X11_gone_73 e (nI 1) (nI x) J L (fun r' K => Q (-2 : Int32) r' K) := by
            intro J fJ hno
            have MJ := fr_MT fJ hM2 rfl
            have m1J := MJ.2.1
            have z4J : J 74 1 = nI w := by rw [fJ.1 74 (by decide) (by decide)]; exact z4
            have z5J : J 75 1 = nI c := by rw [fJ.1 75 (by decide) (by decide)]; exact z5
            refine b_X11_gone_73 (b_X11_whyNotSeen_73 ?_)
            simp (disch := omega) only [pk_mul, nI_add, ksub, kdv, kd8, kd64, kd2, kd3, km8, km64, kt8, ke8, ke64, kcl, kin, kle, klt, keq, up_s, up_n, up_u, true_and, and_true, false_implies, true_implies, not_false_eq_true, not_true_eq_false, m1J, kzl, kcz, kl3, q3, knl, gx, z4J, qm, z5J, qc, qd]
            refine c_whyNotSeen (f := L 32) (MT_0 MJ) hk2 (by decide) z5J hc24 hc3 z6' (fun g hg ht => absurd ⟨g, hg, ht⟩ hno) (fun _ K fK => ?_)
            exact ⟨fun h => absurd h (by decide), fun _ => hQ _ _ (fr_q1 fJ fK rfl rfl rfl rfl)⟩
          refine c_areC_1 z3 hc c0 (fun hg => ?_) (fun hg => ?_)
          · refine ⟨fun h => absurd h (by decide), fun _ => ?_⟩
            have hex : ∃ g : Nat → Nat, ∀ k, k < c → g k < t 0 0 ∧ L 32 k = lN (g k) := by
              refine ⟨fun k => if h : k < c then Classical.choose (gdc_o o0 (hg k h)) else 0, fun k hk => ?_⟩
              show (if h : k < c then Classical.choose (gdc_o o0 (hg k h)) else 0) < _ ∧ _ = lN (if h : k < c then Classical.choose (gdc_o o0 (hg k h)) else 0)
              rw [dif_pos hk]
              exact Classical.choose_spec (gdc_o o0 (hg k hk))
            obtain ⟨g, hgg⟩ := hex
            refine c_countSeen_1 hC2 hk2 z3 hc24 hc3 (fun k hk => (hgg k hk).2) (fun k hk => (hgg k hk).1) (fun hT J fJ hJ => ?_) (fun hT J fJ => ?_)
            · refine ⟨fun h => absurd h (by decide), fun _ => ?_⟩
              have z3J : J 31 3 = nI c := by rw [fJ.1 31 (by decide) (by decide)]; exact z3
              obtain ⟨l1, l2⟩ := wkA_m (t 1) (c / 3 + 1) (sns g (c / 3)) x (by omega) (by omega)
              simp (disch := omega) only [pk_mul, nI_add, ksub, kdv, kd8, kd64, kd2, kd3, km8, km64, kt8, ke8, ke64, kcl, kin, kle, klt, keq, up_s, up_n, up_u, true_and, and_true, false_implies, true_implies, not_false_eq_true, not_true_eq_false, z3J]
              refine c_walkAll (nw := sns g (c / 3)) (fr_CT fJ hC2 rfl) hk2 (by omega) (by omega) (sns_b g (by omega)) (sns_z hT) hJ (fun K fK0 k1 k2 => ?_)
              have fK := fr_trans (fr_mono (S' := [2, 63, 64]) (F' := []) fJ rfl rfl) fK0
              have qz : ((0 : Nat) = 0) = True := eq_true rfl
              have MK := fr_MT fK hM2 rfl
              have m1K := MK.2.1
              have z4K : K 74 1 = nI w := by rw [fK.1 74 (by decide) (by decide)]; exact z4
              have z5K : K 75 1 = nI c := by rw [fK.1 75 (by decide) (by decide)]; exact z5
              have hm : ∀ Q2 : Int32 → (Nat → Nat → Int32) → Prop, (∀ N, fr SC FC I N → Q2 (nI (bts (fun y => decide (0 < (wq (wkA (t 1) (c / 3 + 1) (sns g (c / 3)) x) y).length)) 8)) N) → C_X11_gone_73 e (nI 1) (nI x) K L Q2 := by
                intro Q2 hQ2
                refine b_X11_gone_73 (b_X11_whyNotSeen_73 ?_)
                simp (disch := omega) only [pk_mul, nI_add, ksub, kdv, kd8, kd64, kd2, kd3, km8, km64, kt8, ke8, ke64, kcl, kin, kle, klt, keq, up_s, up_n, up_u, true_and, and_true, false_implies, true_implies, not_false_eq_true, not_true_eq_false, m1K, kzl, kcz, kl3, q3, knl, gx, z4K, qm, z5K, qc, qd]
                refine c_whyNotSeen (f := L 32) (MT_0 MK) hk2 (by decide) z5K hc24 hc3 z6' (fun g' hg' ht' N fN hN => ?_) (fun hno N fN => absurd ⟨g, hgg, hT⟩ hno)
                have hgq : ∀ k, k < c → g' k = g k := fun k hkc => by
                  have h5 := (hg' k hkc).2
                  rw [(hgg k hkc).2] at h5
                  exact ((lN_eq (by have := (hgg k hkc).1; omega) (by have := (hg' k hkc).1; omega)).mp h5).symm
                have hsq : ∀ k, sns g' (c / 3) k = sns g (c / 3) k := fun k => cn_c (fun j hj => by
                  unfold tri
                  rw [hgq _ (by omega), hgq _ (by omega), hgq _ (by omega)])
                refine ⟨fun _ => ?_, fun h => absurd rfl h⟩
                have z5N : N 75 1 = nI c := by rw [fN.1 75 (by decide) (by decide)]; exact z5K
                have MN := fr_MT fN (MT_0 MK) rfl
                have hrun := c_lays (e := e) (L := L) (t := t) (E := (-1 : Int32)) (n := c / 3 + 1) (x := x) (nw := sns g (c / 3)) (J := N) (Q := fun I5 => Q2 (I5 73 43) I5) hk2 (by omega) (by omega) MN (sns_b g (by omega)) (sns_z hT) (fun k hk5 => by rw [hN k hk5, hsq]) (fun N2 fN2 n1 n2 n3 => ?_)
                · simp (disch := omega) only [pk_mul, nI_add, ksub, kdv, kd8, kd64, kd2, kd3, km8, km64, kt8, ke8, ke64, kcl, kin, kle, klt, keq, up_s, up_n, up_u, true_and, and_true, false_implies, true_implies, not_false_eq_true, not_true_eq_false] at hrun
                  simp (disch := omega) only [pk_mul, nI_add, ksub, kdv, kd8, kd64, kd2, kd3, km8, km64, kt8, ke8, ke64, kcl, kin, kle, klt, keq, up_s, up_n, up_u, true_and, and_true, false_implies, true_implies, not_false_eq_true, not_true_eq_false, z5N]
                  exact hrun
                · have fN3 := fr_q1 fK (fr_trans (fr_mono (S' := [87, 96]) (F' := [40, 41, 42, 43]) fN rfl rfl) fN2) rfl rfl rfl rfl
                  rw [n3, wkM_n, enr_e, eb_b (fun q hq => (l1 q hq).1)]
                  exact hQ2 _ fN3
              refine c_endBits (c := fun y => (wq (wkA (t 1) (c / 3 + 1) (sns g (c / 3)) x) y).length) k1 (fun y _ => by have := wq_le (wkA (t 1) (c / 3 + 1) (sns g (c / 3)) x) y; show (wq (wkA (t 1) (c / 3 + 1) (sns g (c / 3)) x) y).length < _; omega) ?_
              exact hm _ (fun N fN => hQ _ _ fN)
            · refine ⟨fun _ => ?_, fun h => absurd rfl h⟩
              simp (disch := omega) only [pk_mul, nI_add, ksub, kdv, kd8, kd64, kd2, kd3, km8, km64, kt8, ke8, ke64, kcl, kin, kle, klt, keq, up_s, up_n, up_u, true_and, and_true, false_implies, true_implies, not_false_eq_true, not_true_eq_false, q4]
              refine hmbad J fJ (fun h9 => hT ?_)
              obtain ⟨g', hg', ht'⟩ := h9
              intro j hj
              have hgq : ∀ k, k < c → g' k = g k := fun k hkc => by
                have h5 := (hg' k hkc).2
                rw [(hgg k hkc).2] at h5
                exact ((lN_eq (by have := (hgg k hkc).1; omega) (by have := (hg' k hkc).1; omega)).mp h5).symm
              have h6 := ht' j hj
              unfold tri at h6 ⊢
              rw [hgq _ (by omega), hgq _ (by omega), hgq _ (by omega)] at h6
              exact h6
          · refine ⟨fun _ => ?_, fun h => absurd rfl h⟩
            simp (disch := omega) only [pk_mul, nI_add, ksub, kdv, kd8, kd64, kd2, kd3, km8, km64, kt8, ke8, ke64, kcl, kin, kle, klt, keq, up_s, up_n, up_u, true_and, and_true, false_implies, true_implies, not_false_eq_true, not_true_eq_false, q4]
            refine hmbad I (fr_refl _ _ _) (fun h9 => hg (fun k hkc => ?_))
            obtain ⟨g', hg', ht'⟩ := h9
            obtain ⟨h5, h6⟩ := hg' k hkc
            rw [gdc_i, h6, nI_l (by omega), Int64.lt_iff_toInt_lt, Int64.lt_iff_toInt_lt, lN_toInt (by omega), lN_toInt (by omega)]
            have h7 : (0 : Int64).toInt = 0 := rfl
            omega
        · have qd := eq_false hc24
          have qe : (8 < c / 3) = True := eq_true (by omega)
          refine b_X10_gone_0_c1 (b_X10_walkAsSeen_0_c1 ?_)
          simp (disch := omega) only [pk_mul, nI_add, ksub, kdv, kd8, kd64, kd2, kd3, km8, km64, kt8, ke8, ke64, kcl, kin, kle, klt, keq, up_s, up_n, up_u, true_and, and_true, false_implies, true_implies, not_false_eq_true, not_true_eq_false, c0, gx, knl, z1, qF, z3, qc, qe, q4]
          refine b_X11_gone_73 (b_X11_whyNotSeen_73 ?_)
          simp (disch := omega) only [pk_mul, nI_add, ksub, kdv, kd8, kd64, kd2, kd3, km8, km64, kt8, ke8, ke64, kcl, kin, kle, klt, keq, up_s, up_n, up_u, true_and, and_true, false_implies, true_implies, not_false_eq_true, not_true_eq_false, m1, kzl, kcz, kl3, q3, knl, gx, z4, qm, z5, qc, qd, q4]
          exact hQ _ _ f0
      · have qc := eq_false hc3
        refine b_X10_gone_0_c1 (b_X10_walkAsSeen_0_c1 ?_)
        simp (disch := omega) only [pk_mul, nI_add, ksub, kdv, kd8, kd64, kd2, kd3, km8, km64, kt8, ke8, ke64, kcl, kin, kle, klt, keq, up_s, up_n, up_u, true_and, and_true, false_implies, true_implies, not_false_eq_true, not_true_eq_false, c0, gx, knl, z1, qF, z3, qc, q4]
        refine b_X11_gone_73 (b_X11_whyNotSeen_73 ?_)
        simp (disch := omega) only [pk_mul, nI_add, ksub, kdv, kd8, kd64, kd2, kd3, km8, km64, kt8, ke8, ke64, kcl, kin, kle, klt, keq, up_s, up_n, up_u, true_and, and_true, false_implies, true_implies, not_false_eq_true, not_true_eq_false, m1, kzl, kcz, kl3, q3, knl, gx, z4, qm, z5, qc, q4]
        exact hQ _ _ f0
theorem q_gone_2 {e : am_V} {I : Nat → Nat → Int32} {L : Nat → Nat → Int64} {t : tw} {Q : Int32 → Int32 → (Nat → Nat → Int32) → Prop} {v2 : Int32} (hC : CT t I) (hM : MT t I) (hk : tok t) (hS : SL I L) (hQ : ∀ r J, fr SC FC I J → Q r r J) : C_X10_gone_0 e (nI 2) v2 I L (fun r J => C_X11_gone_73 e (nI 2) v2 J L (fun r' K => Q r r' K)) := by
  have hC2 := hC
  have hM2 := hM
  have hk2 := hk
  obtain ⟨c0, c1, c2, c3, c4, c5, c6, c7, c8, cS, cD, cN, cA, cT, cM, cR, cF, cO, cH, cL⟩ := hC
  obtain ⟨m0, m1, m2, m3, m4, m5, mS, mU, mL, mF, mO, mH, mA, mK⟩ := hM
  obtain ⟨o0, oT, oZ, oY, oD, o9, oN, o28, oB, oX, oE, oF, oA, oH, oU, oV⟩ := hk
  have f0 : fr SC FC I (va_up I 73 (va_up (I 73) 0 (nI 0))) := fr_73 (fr_refl _ _ _) rfl
  have n3 : (2 : Nat) ≤ 3 := by decide
  have q3 : (2 ≤ 3) = True := eq_true n3
  have q4 : ((-2 : Int32) = nI 0) = False := eq_false (by decide)
  have q6 : ((-6 : Int32) = nI 0) = False := eq_false (by decide)
  rcases crs v2 (t 0 0) (by omega) with ax | ⟨ax, dx⟩ | ⟨x, hx, rfl⟩
  · (refine b_X10_gone_0_c2 (b_X10_walkAsSeen_0_c2 ?_); simp (disch := omega) only [pk_mul, nI_add, ksub, kdv, kd8, kd64, kd2, kd3, km8, km64, kt8, ke8, ke64, kcl, kin, kle, klt, keq, up_s, up_n, up_u, true_and, and_true, false_implies, true_implies, not_false_eq_true, not_true_eq_false, c0, ax, q4]; refine b_X11_gone_73 (b_X11_whyNotSeen_73 ?_); simp (disch := omega) only [pk_mul, nI_add, ksub, kdv, kd8, kd64, kd2, kd3, km8, km64, kt8, ke8, ke64, kcl, kin, kle, klt, keq, up_s, up_n, up_u, true_and, and_true, false_implies, true_implies, not_false_eq_true, not_true_eq_false, m1, kzl, kcz, kl3, q3, knl, ax, q4]; exact hQ _ _ f0)
  · (refine b_X10_gone_0_c2 (b_X10_walkAsSeen_0_c2 ?_); simp (disch := omega) only [pk_mul, nI_add, ksub, kdv, kd8, kd64, kd2, kd3, km8, km64, kt8, ke8, ke64, kcl, kin, kle, klt, keq, up_s, up_n, up_u, true_and, and_true, false_implies, true_implies, not_false_eq_true, not_true_eq_false, c0, ax, dx, q4]; refine b_X11_gone_73 (b_X11_whyNotSeen_73 ?_); simp (disch := omega) only [pk_mul, nI_add, ksub, kdv, kd8, kd64, kd2, kd3, km8, km64, kt8, ke8, ke64, kcl, kin, kle, klt, keq, up_s, up_n, up_u, true_and, and_true, false_implies, true_implies, not_false_eq_true, not_true_eq_false, m1, kzl, kcz, kl3, q3, knl, ax, dx, q4]; exact hQ _ _ f0)
  · have gx : (t 0 0 ≤ x) = False := eq_false (by omega)
    rcases hS 2 (by decide) with ⟨z1, z2⟩ | ⟨w, c, hw, hc, z1, z2, z3, z4, z5, z6⟩
    · change I 33 1 = nI 0 at z1
      have qT : ((0 : Nat) = 0) = True := eq_true rfl
      have qM : ((-1 : Int32) = (-1 : Int32)) = True := eq_true rfl
      refine b_X10_gone_0_c2 (b_X10_walkAsSeen_0_c2 ?_)
      simp (disch := omega) only [pk_mul, nI_add, ksub, kdv, kd8, kd64, kd2, kd3, km8, km64, kt8, ke8, ke64, kcl, kin, kle, klt, keq, up_s, up_n, up_u, true_and, and_true, false_implies, true_implies, not_false_eq_true, not_true_eq_false, c0, gx, knl, z1, qT, q6]
      refine b_X11_gone_73 (b_X11_whyNotSeen_73 ?_)
      simp (disch := omega) only [pk_mul, nI_add, ksub, kdv, kd8, kd64, kd2, kd3, km8, km64, kt8, ke8, ke64, kcl, kin, kle, klt, keq, up_s, up_n, up_u, true_and, and_true, false_implies, true_implies, not_false_eq_true, not_true_eq_false, m1, kzl, kcz, kl3, q3, knl, gx, z2, qM, q6]
      exact hQ _ _ f0
    · change I 33 1 = nI 1 at z1
      change I 33 2 = nI w at z2
      change I 33 3 = nI c at z3
      have z6' : ∀ k, k < c → L 76 (60 * 2 + k) = L 34 k := fun k hk => (z6 k hk).symm
      have qF : ((1 : Nat) = 0) = False := eq_false (by decide)
      have qm := km1 (n := w) (by omega)
      by_cases hc3 : c % 3 = 0
      · have qc := eq_true hc3
        by_cases hc24 : c ≤ 24
        · have qd := eq_true hc24
          have qe : (8 < c / 3) = False := eq_false (by omega)
          refine b_X10_gone_0_c2 (b_X10_walkAsSeen_0_c2 ?_)
          simp (disch := omega) only [pk_mul, nI_add, ksub, kdv, kd8, kd64, kd2, kd3, km8, km64, kt8, ke8, ke64, kcl, kin, kle, klt, keq, up_s, up_n, up_u, true_and, and_true, false_implies, true_implies, not_false_eq_true, not_true_eq_false, c0, gx, knl, z1, qF, z3, qc, qe]
          have hmbad : ∀ J, fr [2] [] I J → (¬ ∃ g : Nat → Nat, (∀ k, k < c → g k < t 0 0 ∧ L 34 k = lN (g k)) ∧ ∀ j, j < c / 3 → tB t (tri g j) = true) → C_X11_gone_73 e (nI 2) (nI x) J L (fun r' K => Q (-2 : Int32) r' K) := by
            intro J fJ hno
            have MJ := fr_MT fJ hM2 rfl
            have m1J := MJ.2.1
            have z4J : J 74 2 = nI w := by rw [fJ.1 74 (by decide) (by decide)]; exact z4
            have z5J : J 75 2 = nI c := by rw [fJ.1 75 (by decide) (by decide)]; exact z5
            refine b_X11_gone_73 (b_X11_whyNotSeen_73 ?_)
            simp (disch := omega) only [pk_mul, nI_add, ksub, kdv, kd8, kd64, kd2, kd3, km8, km64, kt8, ke8, ke64, kcl, kin, kle, klt, keq, up_s, up_n, up_u, true_and, and_true, false_implies, true_implies, not_false_eq_true, not_true_eq_false, m1J, kzl, kcz, kl3, q3, knl, gx, z4J, qm, z5J, qc, qd]
            refine c_whyNotSeen (f := L 34) (MT_0 MJ) hk2 (by decide) z5J hc24 hc3 z6' (fun g hg ht => absurd ⟨g, hg, ht⟩ hno) (fun _ K fK => ?_)
            exact ⟨fun h => absurd h (by decide), fun _ => hQ _ _ (fr_q1 fJ fK rfl rfl rfl rfl)⟩
          refine c_areC_2 z3 hc c0 (fun hg => ?_) (fun hg => ?_)
          · refine ⟨fun h => absurd h (by decide), fun _ => ?_⟩
            have hex : ∃ g : Nat → Nat, ∀ k, k < c → g k < t 0 0 ∧ L 34 k = lN (g k) := by
              refine ⟨fun k => if h : k < c then Classical.choose (gdc_o o0 (hg k h)) else 0, fun k hk => ?_⟩
              show (if h : k < c then Classical.choose (gdc_o o0 (hg k h)) else 0) < _ ∧ _ = lN (if h : k < c then Classical.choose (gdc_o o0 (hg k h)) else 0)
              rw [dif_pos hk]
              exact Classical.choose_spec (gdc_o o0 (hg k hk))
            obtain ⟨g, hgg⟩ := hex
            refine c_countSeen_2 hC2 hk2 z3 hc24 hc3 (fun k hk => (hgg k hk).2) (fun k hk => (hgg k hk).1) (fun hT J fJ hJ => ?_) (fun hT J fJ => ?_)
            · refine ⟨fun h => absurd h (by decide), fun _ => ?_⟩
              have z3J : J 33 3 = nI c := by rw [fJ.1 33 (by decide) (by decide)]; exact z3
              obtain ⟨l1, l2⟩ := wkA_m (t 1) (c / 3 + 1) (sns g (c / 3)) x (by omega) (by omega)
              simp (disch := omega) only [pk_mul, nI_add, ksub, kdv, kd8, kd64, kd2, kd3, km8, km64, kt8, ke8, ke64, kcl, kin, kle, klt, keq, up_s, up_n, up_u, true_and, and_true, false_implies, true_implies, not_false_eq_true, not_true_eq_false, z3J]
              refine c_walkAll (nw := sns g (c / 3)) (fr_CT fJ hC2 rfl) hk2 (by omega) (by omega) (sns_b g (by omega)) (sns_z hT) hJ (fun K fK0 k1 k2 => ?_)
              have fK := fr_trans (fr_mono (S' := [2, 63, 64]) (F' := []) fJ rfl rfl) fK0
              have qz : ((0 : Nat) = 0) = True := eq_true rfl
              have MK := fr_MT fK hM2 rfl
              have m1K := MK.2.1
              have z4K : K 74 2 = nI w := by rw [fK.1 74 (by decide) (by decide)]; exact z4
              have z5K : K 75 2 = nI c := by rw [fK.1 75 (by decide) (by decide)]; exact z5
              have hm : ∀ Q2 : Int32 → (Nat → Nat → Int32) → Prop, (∀ N, fr SC FC I N → Q2 (nI (bts (fun y => decide (0 < (wq (wkA (t 1) (c / 3 + 1) (sns g (c / 3)) x) y).length)) 8)) N) → C_X11_gone_73 e (nI 2) (nI x) K L Q2 := by
                intro Q2 hQ2
                refine b_X11_gone_73 (b_X11_whyNotSeen_73 ?_)
                simp (disch := omega) only [pk_mul, nI_add, ksub, kdv, kd8, kd64, kd2, kd3, km8, km64, kt8, ke8, ke64, kcl, kin, kle, klt, keq, up_s, up_n, up_u, true_and, and_true, false_implies, true_implies, not_false_eq_true, not_true_eq_false, m1K, kzl, kcz, kl3, q3, knl, gx, z4K, qm, z5K, qc, qd]
                refine c_whyNotSeen (f := L 34) (MT_0 MK) hk2 (by decide) z5K hc24 hc3 z6' (fun g' hg' ht' N fN hN => ?_) (fun hno N fN => absurd ⟨g, hgg, hT⟩ hno)
                have hgq : ∀ k, k < c → g' k = g k := fun k hkc => by
                  have h5 := (hg' k hkc).2
                  rw [(hgg k hkc).2] at h5
                  exact ((lN_eq (by have := (hgg k hkc).1; omega) (by have := (hg' k hkc).1; omega)).mp h5).symm
                have hsq : ∀ k, sns g' (c / 3) k = sns g (c / 3) k := fun k => cn_c (fun j hj => by
                  unfold tri
                  rw [hgq _ (by omega), hgq _ (by omega), hgq _ (by omega)])
                refine ⟨fun _ => ?_, fun h => absurd rfl h⟩
                have z5N : N 75 2 = nI c := by rw [fN.1 75 (by decide) (by decide)]; exact z5K
                have MN := fr_MT fN (MT_0 MK) rfl
                have hrun := c_lays (e := e) (L := L) (t := t) (E := (-1 : Int32)) (n := c / 3 + 1) (x := x) (nw := sns g (c / 3)) (J := N) (Q := fun I5 => Q2 (I5 73 43) I5) hk2 (by omega) (by omega) MN (sns_b g (by omega)) (sns_z hT) (fun k hk5 => by rw [hN k hk5, hsq]) (fun N2 fN2 n1 n2 n3 => ?_)
                · simp (disch := omega) only [pk_mul, nI_add, ksub, kdv, kd8, kd64, kd2, kd3, km8, km64, kt8, ke8, ke64, kcl, kin, kle, klt, keq, up_s, up_n, up_u, true_and, and_true, false_implies, true_implies, not_false_eq_true, not_true_eq_false] at hrun
                  simp (disch := omega) only [pk_mul, nI_add, ksub, kdv, kd8, kd64, kd2, kd3, km8, km64, kt8, ke8, ke64, kcl, kin, kle, klt, keq, up_s, up_n, up_u, true_and, and_true, false_implies, true_implies, not_false_eq_true, not_true_eq_false, z5N]
                  exact hrun
                · have fN3 := fr_q1 fK (fr_trans (fr_mono (S' := [87, 96]) (F' := [40, 41, 42, 43]) fN rfl rfl) fN2) rfl rfl rfl rfl
                  rw [n3, wkM_n, enr_e, eb_b (fun q hq => (l1 q hq).1)]
                  exact hQ2 _ fN3
              refine c_endBits (c := fun y => (wq (wkA (t 1) (c / 3 + 1) (sns g (c / 3)) x) y).length) k1 (fun y _ => by have := wq_le (wkA (t 1) (c / 3 + 1) (sns g (c / 3)) x) y; show (wq (wkA (t 1) (c / 3 + 1) (sns g (c / 3)) x) y).length < _; omega) ?_
              exact hm _ (fun N fN => hQ _ _ fN)
            · refine ⟨fun _ => ?_, fun h => absurd rfl h⟩
              simp (disch := omega) only [pk_mul, nI_add, ksub, kdv, kd8, kd64, kd2, kd3, km8, km64, kt8, ke8, ke64, kcl, kin, kle, klt, keq, up_s, up_n, up_u, true_and, and_true, false_implies, true_implies, not_false_eq_true, not_true_eq_false, q4]
              refine hmbad J fJ (fun h9 => hT ?_)
              obtain ⟨g', hg', ht'⟩ := h9
              intro j hj
              have hgq : ∀ k, k < c → g' k = g k := fun k hkc => by
                have h5 := (hg' k hkc).2
                rw [(hgg k hkc).2] at h5
                exact ((lN_eq (by have := (hgg k hkc).1; omega) (by have := (hg' k hkc).1; omega)).mp h5).symm
              have h6 := ht' j hj
              unfold tri at h6 ⊢
              rw [hgq _ (by omega), hgq _ (by omega), hgq _ (by omega)] at h6
              exact h6
          · refine ⟨fun _ => ?_, fun h => absurd rfl h⟩
            simp (disch := omega) only [pk_mul, nI_add, ksub, kdv, kd8, kd64, kd2, kd3, km8, km64, kt8, ke8, ke64, kcl, kin, kle, klt, keq, up_s, up_n, up_u, true_and, and_true, false_implies, true_implies, not_false_eq_true, not_true_eq_false, q4]
            refine hmbad I (fr_refl _ _ _) (fun h9 => hg (fun k hkc => ?_))
            obtain ⟨g', hg', ht'⟩ := h9
            obtain ⟨h5, h6⟩ := hg' k hkc
            rw [gdc_i, h6, nI_l (by omega), Int64.lt_iff_toInt_lt, Int64.lt_iff_toInt_lt, lN_toInt (by omega), lN_toInt (by omega)]
            have h7 : (0 : Int64).toInt = 0 := rfl
            omega
        · have qd := eq_false hc24
          have qe : (8 < c / 3) = True := eq_true (by omega)
          refine b_X10_gone_0_c2 (b_X10_walkAsSeen_0_c2 ?_)
          simp (disch := omega) only [pk_mul, nI_add, ksub, kdv, kd8, kd64, kd2, kd3, km8, km64, kt8, ke8, ke64, kcl, kin, kle, klt, keq, up_s, up_n, up_u, true_and, and_true, false_implies, true_implies, not_false_eq_true, not_true_eq_false, c0, gx, knl, z1, qF, z3, qc, qe, q4]
          refine b_X11_gone_73 (b_X11_whyNotSeen_73 ?_)
          simp (disch := omega) only [pk_mul, nI_add, ksub, kdv, kd8, kd64, kd2, kd3, km8, km64, kt8, ke8, ke64, kcl, kin, kle, klt, keq, up_s, up_n, up_u, true_and, and_true, false_implies, true_implies, not_false_eq_true, not_true_eq_false, m1, kzl, kcz, kl3, q3, knl, gx, z4, qm, z5, qc, qd, q4]
          exact hQ _ _ f0
      · have qc := eq_false hc3
        refine b_X10_gone_0_c2 (b_X10_walkAsSeen_0_c2 ?_)
        simp (disch := omega) only [pk_mul, nI_add, ksub, kdv, kd8, kd64, kd2, kd3, km8, km64, kt8, ke8, ke64, kcl, kin, kle, klt, keq, up_s, up_n, up_u, true_and, and_true, false_implies, true_implies, not_false_eq_true, not_true_eq_false, c0, gx, knl, z1, qF, z3, qc, q4]
        refine b_X11_gone_73 (b_X11_whyNotSeen_73 ?_)
        simp (disch := omega) only [pk_mul, nI_add, ksub, kdv, kd8, kd64, kd2, kd3, km8, km64, kt8, ke8, ke64, kcl, kin, kle, klt, keq, up_s, up_n, up_u, true_and, and_true, false_implies, true_implies, not_false_eq_true, not_true_eq_false, m1, kzl, kcz, kl3, q3, knl, gx, z4, qm, z5, qc, q4]
        exact hQ _ _ f0
theorem q_gone_3 {e : am_V} {I : Nat → Nat → Int32} {L : Nat → Nat → Int64} {t : tw} {Q : Int32 → Int32 → (Nat → Nat → Int32) → Prop} {v2 : Int32} (hC : CT t I) (hM : MT t I) (hk : tok t) (hS : SL I L) (hQ : ∀ r J, fr SC FC I J → Q r r J) : C_X10_gone_0 e (nI 3) v2 I L (fun r J => C_X11_gone_73 e (nI 3) v2 J L (fun r' K => Q r r' K)) := by
  have hC2 := hC
  have hM2 := hM
  have hk2 := hk
  obtain ⟨c0, c1, c2, c3, c4, c5, c6, c7, c8, cS, cD, cN, cA, cT, cM, cR, cF, cO, cH, cL⟩ := hC
  obtain ⟨m0, m1, m2, m3, m4, m5, mS, mU, mL, mF, mO, mH, mA, mK⟩ := hM
  obtain ⟨o0, oT, oZ, oY, oD, o9, oN, o28, oB, oX, oE, oF, oA, oH, oU, oV⟩ := hk
  have f0 : fr SC FC I (va_up I 73 (va_up (I 73) 0 (nI 0))) := fr_73 (fr_refl _ _ _) rfl
  have n3 : (3 : Nat) ≤ 3 := by decide
  have q3 : (3 ≤ 3) = True := eq_true n3
  have q4 : ((-2 : Int32) = nI 0) = False := eq_false (by decide)
  have q6 : ((-6 : Int32) = nI 0) = False := eq_false (by decide)
  rcases crs v2 (t 0 0) (by omega) with ax | ⟨ax, dx⟩ | ⟨x, hx, rfl⟩
  · (refine b_X10_gone_0_c3 (b_X10_walkAsSeen_0_c3 ?_); simp (disch := omega) only [pk_mul, nI_add, ksub, kdv, kd8, kd64, kd2, kd3, km8, km64, kt8, ke8, ke64, kcl, kin, kle, klt, keq, up_s, up_n, up_u, true_and, and_true, false_implies, true_implies, not_false_eq_true, not_true_eq_false, c0, ax, q4]; refine b_X11_gone_73 (b_X11_whyNotSeen_73 ?_); simp (disch := omega) only [pk_mul, nI_add, ksub, kdv, kd8, kd64, kd2, kd3, km8, km64, kt8, ke8, ke64, kcl, kin, kle, klt, keq, up_s, up_n, up_u, true_and, and_true, false_implies, true_implies, not_false_eq_true, not_true_eq_false, m1, kzl, kcz, kl3, q3, knl, ax, q4]; exact hQ _ _ f0)
  · (refine b_X10_gone_0_c3 (b_X10_walkAsSeen_0_c3 ?_); simp (disch := omega) only [pk_mul, nI_add, ksub, kdv, kd8, kd64, kd2, kd3, km8, km64, kt8, ke8, ke64, kcl, kin, kle, klt, keq, up_s, up_n, up_u, true_and, and_true, false_implies, true_implies, not_false_eq_true, not_true_eq_false, c0, ax, dx, q4]; refine b_X11_gone_73 (b_X11_whyNotSeen_73 ?_); simp (disch := omega) only [pk_mul, nI_add, ksub, kdv, kd8, kd64, kd2, kd3, km8, km64, kt8, ke8, ke64, kcl, kin, kle, klt, keq, up_s, up_n, up_u, true_and, and_true, false_implies, true_implies, not_false_eq_true, not_true_eq_false, m1, kzl, kcz, kl3, q3, knl, ax, dx, q4]; exact hQ _ _ f0)
  · have gx : (t 0 0 ≤ x) = False := eq_false (by omega)
    rcases hS 3 (by decide) with ⟨z1, z2⟩ | ⟨w, c, hw, hc, z1, z2, z3, z4, z5, z6⟩
    · change I 35 1 = nI 0 at z1
      have qT : ((0 : Nat) = 0) = True := eq_true rfl
      have qM : ((-1 : Int32) = (-1 : Int32)) = True := eq_true rfl
      refine b_X10_gone_0_c3 (b_X10_walkAsSeen_0_c3 ?_)
      simp (disch := omega) only [pk_mul, nI_add, ksub, kdv, kd8, kd64, kd2, kd3, km8, km64, kt8, ke8, ke64, kcl, kin, kle, klt, keq, up_s, up_n, up_u, true_and, and_true, false_implies, true_implies, not_false_eq_true, not_true_eq_false, c0, gx, knl, z1, qT, q6]
      refine b_X11_gone_73 (b_X11_whyNotSeen_73 ?_)
      simp (disch := omega) only [pk_mul, nI_add, ksub, kdv, kd8, kd64, kd2, kd3, km8, km64, kt8, ke8, ke64, kcl, kin, kle, klt, keq, up_s, up_n, up_u, true_and, and_true, false_implies, true_implies, not_false_eq_true, not_true_eq_false, m1, kzl, kcz, kl3, q3, knl, gx, z2, qM, q6]
      exact hQ _ _ f0
    · change I 35 1 = nI 1 at z1
      change I 35 2 = nI w at z2
      change I 35 3 = nI c at z3
      have z6' : ∀ k, k < c → L 76 (60 * 3 + k) = L 36 k := fun k hk => (z6 k hk).symm
      have qF : ((1 : Nat) = 0) = False := eq_false (by decide)
      have qm := km1 (n := w) (by omega)
      by_cases hc3 : c % 3 = 0
      · have qc := eq_true hc3
        by_cases hc24 : c ≤ 24
        · have qd := eq_true hc24
          have qe : (8 < c / 3) = False := eq_false (by omega)
          refine b_X10_gone_0_c3 (b_X10_walkAsSeen_0_c3 ?_)
          simp (disch := omega) only [pk_mul, nI_add, ksub, kdv, kd8, kd64, kd2, kd3, km8, km64, kt8, ke8, ke64, kcl, kin, kle, klt, keq, up_s, up_n, up_u, true_and, and_true, false_implies, true_implies, not_false_eq_true, not_true_eq_false, c0, gx, knl, z1, qF, z3, qc, qe]
          have hmbad : ∀ J, fr [2] [] I J → (¬ ∃ g : Nat → Nat, (∀ k, k < c → g k < t 0 0 ∧ L 36 k = lN (g k)) ∧ ∀ j, j < c / 3 → tB t (tri g j) = true) → C_X11_gone_73 e (nI 3) (nI x) J L (fun r' K => Q (-2 : Int32) r' K) := by
            intro J fJ hno
            have MJ := fr_MT fJ hM2 rfl
            have m1J := MJ.2.1
            have z4J : J 74 3 = nI w := by rw [fJ.1 74 (by decide) (by decide)]; exact z4
            have z5J : J 75 3 = nI c := by rw [fJ.1 75 (by decide) (by decide)]; exact z5
            refine b_X11_gone_73 (b_X11_whyNotSeen_73 ?_)
            simp (disch := omega) only [pk_mul, nI_add, ksub, kdv, kd8, kd64, kd2, kd3, km8, km64, kt8, ke8, ke64, kcl, kin, kle, klt, keq, up_s, up_n, up_u, true_and, and_true, false_implies, true_implies, not_false_eq_true, not_true_eq_false, m1J, kzl, kcz, kl3, q3, knl, gx, z4J, qm, z5J, qc, qd]
            refine c_whyNotSeen (f := L 36) (MT_0 MJ) hk2 (by decide) z5J hc24 hc3 z6' (fun g hg ht => absurd ⟨g, hg, ht⟩ hno) (fun _ K fK => ?_)
            exact ⟨fun h => absurd h (by decide), fun _ => hQ _ _ (fr_q1 fJ fK rfl rfl rfl rfl)⟩
          refine c_areC_3 z3 hc c0 (fun hg => ?_) (fun hg => ?_)
          · refine ⟨fun h => absurd h (by decide), fun _ => ?_⟩
            have hex : ∃ g : Nat → Nat, ∀ k, k < c → g k < t 0 0 ∧ L 36 k = lN (g k) := by
              refine ⟨fun k => if h : k < c then Classical.choose (gdc_o o0 (hg k h)) else 0, fun k hk => ?_⟩
              show (if h : k < c then Classical.choose (gdc_o o0 (hg k h)) else 0) < _ ∧ _ = lN (if h : k < c then Classical.choose (gdc_o o0 (hg k h)) else 0)
              rw [dif_pos hk]
              exact Classical.choose_spec (gdc_o o0 (hg k hk))
            obtain ⟨g, hgg⟩ := hex
            refine c_countSeen_3 hC2 hk2 z3 hc24 hc3 (fun k hk => (hgg k hk).2) (fun k hk => (hgg k hk).1) (fun hT J fJ hJ => ?_) (fun hT J fJ => ?_)
            · refine ⟨fun h => absurd h (by decide), fun _ => ?_⟩
              have z3J : J 35 3 = nI c := by rw [fJ.1 35 (by decide) (by decide)]; exact z3
              obtain ⟨l1, l2⟩ := wkA_m (t 1) (c / 3 + 1) (sns g (c / 3)) x (by omega) (by omega)
              simp (disch := omega) only [pk_mul, nI_add, ksub, kdv, kd8, kd64, kd2, kd3, km8, km64, kt8, ke8, ke64, kcl, kin, kle, klt, keq, up_s, up_n, up_u, true_and, and_true, false_implies, true_implies, not_false_eq_true, not_true_eq_false, z3J]
              refine c_walkAll (nw := sns g (c / 3)) (fr_CT fJ hC2 rfl) hk2 (by omega) (by omega) (sns_b g (by omega)) (sns_z hT) hJ (fun K fK0 k1 k2 => ?_)
              have fK := fr_trans (fr_mono (S' := [2, 63, 64]) (F' := []) fJ rfl rfl) fK0
              have qz : ((0 : Nat) = 0) = True := eq_true rfl
              have MK := fr_MT fK hM2 rfl
              have m1K := MK.2.1
              have z4K : K 74 3 = nI w := by rw [fK.1 74 (by decide) (by decide)]; exact z4
              have z5K : K 75 3 = nI c := by rw [fK.1 75 (by decide) (by decide)]; exact z5
              have hm : ∀ Q2 : Int32 → (Nat → Nat → Int32) → Prop, (∀ N, fr SC FC I N → Q2 (nI (bts (fun y => decide (0 < (wq (wkA (t 1) (c / 3 + 1) (sns g (c / 3)) x) y).length)) 8)) N) → C_X11_gone_73 e (nI 3) (nI x) K L Q2 := by
                intro Q2 hQ2
                refine b_X11_gone_73 (b_X11_whyNotSeen_73 ?_)
                simp (disch := omega) only [pk_mul, nI_add, ksub, kdv, kd8, kd64, kd2, kd3, km8, km64, kt8, ke8, ke64, kcl, kin, kle, klt, keq, up_s, up_n, up_u, true_and, and_true, false_implies, true_implies, not_false_eq_true, not_true_eq_false, m1K, kzl, kcz, kl3, q3, knl, gx, z4K, qm, z5K, qc, qd]
                refine c_whyNotSeen (f := L 36) (MT_0 MK) hk2 (by decide) z5K hc24 hc3 z6' (fun g' hg' ht' N fN hN => ?_) (fun hno N fN => absurd ⟨g, hgg, hT⟩ hno)
                have hgq : ∀ k, k < c → g' k = g k := fun k hkc => by
                  have h5 := (hg' k hkc).2
                  rw [(hgg k hkc).2] at h5
                  exact ((lN_eq (by have := (hgg k hkc).1; omega) (by have := (hg' k hkc).1; omega)).mp h5).symm
                have hsq : ∀ k, sns g' (c / 3) k = sns g (c / 3) k := fun k => cn_c (fun j hj => by
                  unfold tri
                  rw [hgq _ (by omega), hgq _ (by omega), hgq _ (by omega)])
                refine ⟨fun _ => ?_, fun h => absurd rfl h⟩
                have z5N : N 75 3 = nI c := by rw [fN.1 75 (by decide) (by decide)]; exact z5K
                have MN := fr_MT fN (MT_0 MK) rfl
                have hrun := c_lays (e := e) (L := L) (t := t) (E := (-1 : Int32)) (n := c / 3 + 1) (x := x) (nw := sns g (c / 3)) (J := N) (Q := fun I5 => Q2 (I5 73 43) I5) hk2 (by omega) (by omega) MN (sns_b g (by omega)) (sns_z hT) (fun k hk5 => by rw [hN k hk5, hsq]) (fun N2 fN2 n1 n2 n3 => ?_)
                · simp (disch := omega) only [pk_mul, nI_add, ksub, kdv, kd8, kd64, kd2, kd3, km8, km64, kt8, ke8, ke64, kcl, kin, kle, klt, keq, up_s, up_n, up_u, true_and, and_true, false_implies, true_implies, not_false_eq_true, not_true_eq_false] at hrun
                  simp (disch := omega) only [pk_mul, nI_add, ksub, kdv, kd8, kd64, kd2, kd3, km8, km64, kt8, ke8, ke64, kcl, kin, kle, klt, keq, up_s, up_n, up_u, true_and, and_true, false_implies, true_implies, not_false_eq_true, not_true_eq_false, z5N]
                  exact hrun
                · have fN3 := fr_q1 fK (fr_trans (fr_mono (S' := [87, 96]) (F' := [40, 41, 42, 43]) fN rfl rfl) fN2) rfl rfl rfl rfl
                  rw [n3, wkM_n, enr_e, eb_b (fun q hq => (l1 q hq).1)]
                  exact hQ2 _ fN3
              refine c_endBits (c := fun y => (wq (wkA (t 1) (c / 3 + 1) (sns g (c / 3)) x) y).length) k1 (fun y _ => by have := wq_le (wkA (t 1) (c / 3 + 1) (sns g (c / 3)) x) y; show (wq (wkA (t 1) (c / 3 + 1) (sns g (c / 3)) x) y).length < _; omega) ?_
              exact hm _ (fun N fN => hQ _ _ fN)
            · refine ⟨fun _ => ?_, fun h => absurd rfl h⟩
              simp (disch := omega) only [pk_mul, nI_add, ksub, kdv, kd8, kd64, kd2, kd3, km8, km64, kt8, ke8, ke64, kcl, kin, kle, klt, keq, up_s, up_n, up_u, true_and, and_true, false_implies, true_implies, not_false_eq_true, not_true_eq_false, q4]
              refine hmbad J fJ (fun h9 => hT ?_)
              obtain ⟨g', hg', ht'⟩ := h9
              intro j hj
              have hgq : ∀ k, k < c → g' k = g k := fun k hkc => by
                have h5 := (hg' k hkc).2
                rw [(hgg k hkc).2] at h5
                exact ((lN_eq (by have := (hgg k hkc).1; omega) (by have := (hg' k hkc).1; omega)).mp h5).symm
              have h6 := ht' j hj
              unfold tri at h6 ⊢
              rw [hgq _ (by omega), hgq _ (by omega), hgq _ (by omega)] at h6
              exact h6
          · refine ⟨fun _ => ?_, fun h => absurd rfl h⟩
            simp (disch := omega) only [pk_mul, nI_add, ksub, kdv, kd8, kd64, kd2, kd3, km8, km64, kt8, ke8, ke64, kcl, kin, kle, klt, keq, up_s, up_n, up_u, true_and, and_true, false_implies, true_implies, not_false_eq_true, not_true_eq_false, q4]
            refine hmbad I (fr_refl _ _ _) (fun h9 => hg (fun k hkc => ?_))
            obtain ⟨g', hg', ht'⟩ := h9
            obtain ⟨h5, h6⟩ := hg' k hkc
            rw [gdc_i, h6, nI_l (by omega), Int64.lt_iff_toInt_lt, Int64.lt_iff_toInt_lt, lN_toInt (by omega), lN_toInt (by omega)]
            have h7 : (0 : Int64).toInt = 0 := rfl
            omega
        · have qd := eq_false hc24
          have qe : (8 < c / 3) = True := eq_true (by omega)
          refine b_X10_gone_0_c3 (b_X10_walkAsSeen_0_c3 ?_)
          simp (disch := omega) only [pk_mul, nI_add, ksub, kdv, kd8, kd64, kd2, kd3, km8, km64, kt8, ke8, ke64, kcl, kin, kle, klt, keq, up_s, up_n, up_u, true_and, and_true, false_implies, true_implies, not_false_eq_true, not_true_eq_false, c0, gx, knl, z1, qF, z3, qc, qe, q4]
          refine b_X11_gone_73 (b_X11_whyNotSeen_73 ?_)
          simp (disch := omega) only [pk_mul, nI_add, ksub, kdv, kd8, kd64, kd2, kd3, km8, km64, kt8, ke8, ke64, kcl, kin, kle, klt, keq, up_s, up_n, up_u, true_and, and_true, false_implies, true_implies, not_false_eq_true, not_true_eq_false, m1, kzl, kcz, kl3, q3, knl, gx, z4, qm, z5, qc, qd, q4]
          exact hQ _ _ f0
      · have qc := eq_false hc3
        refine b_X10_gone_0_c3 (b_X10_walkAsSeen_0_c3 ?_)
        simp (disch := omega) only [pk_mul, nI_add, ksub, kdv, kd8, kd64, kd2, kd3, km8, km64, kt8, ke8, ke64, kcl, kin, kle, klt, keq, up_s, up_n, up_u, true_and, and_true, false_implies, true_implies, not_false_eq_true, not_true_eq_false, c0, gx, knl, z1, qF, z3, qc, q4]
        refine b_X11_gone_73 (b_X11_whyNotSeen_73 ?_)
        simp (disch := omega) only [pk_mul, nI_add, ksub, kdv, kd8, kd64, kd2, kd3, km8, km64, kt8, ke8, ke64, kcl, kin, kle, klt, keq, up_s, up_n, up_u, true_and, and_true, false_implies, true_implies, not_false_eq_true, not_true_eq_false, m1, kzl, kcz, kl3, q3, knl, gx, z4, qm, z5, qc, q4]
        exact hQ _ _ f0
theorem q_march {e : am_V} {I : Nat → Nat → Int32} {L : Nat → Nat → Int64} {t : tw} {Q : Int32 → Int32 → (Nat → Nat → Int32) → Prop} {v1 : Int32} (hC : CT t I) (hM : MT t I) (hk : tok t) (hS : SL I L) (hQ : ∀ r J, fr SC FC I J → Q r r J) : C_X10_march_0 e v1 I L (fun r J => C_X11_march_73 e v1 J L (fun r' K => Q r r' K)) := by
  have f0 : fr SC FC I (va_up I 73 (va_up (I 73) 0 (nI 0))) := fr_73 (fr_refl _ _ _) rfl
  have q4 : ((-2 : Int32) = nI 0) = False := eq_false (by decide)
  rcases crl v1 3 (by decide) with ax | ⟨ax, dx⟩ | ⟨x, hx, rfl⟩
  · (refine b_X10_march_0 ?_; simp (disch := omega) only [pk_mul, nI_add, ksub, kdv, kd8, kd64, kd2, kd3, km8, km64, kt8, ke8, ke64, kcl, kin, kle, klt, keq, up_s, up_n, up_u, true_and, and_true, false_implies, true_implies, not_false_eq_true, not_true_eq_false, ax, q4]; refine b_X11_march_73 (b_X11_whyNotMarch_73 ?_); simp (disch := omega) only [pk_mul, nI_add, ksub, kdv, kd8, kd64, kd2, kd3, km8, km64, kt8, ke8, ke64, kcl, kin, kle, klt, keq, up_s, up_n, up_u, true_and, and_true, false_implies, true_implies, not_false_eq_true, not_true_eq_false, kzl, ax, q4]; exact hQ _ _ f0)
  · have d4 : nI 4 ≤ v1 := by
      rw [Int32.le_iff_toInt_le] at dx ⊢
      have h5 : (nI 3).toInt = 3 := rfl
      have h6 : (nI 4).toInt = 4 := rfl
      omega
    (refine b_X10_march_0 ?_; simp (disch := omega) only [pk_mul, nI_add, ksub, kdv, kd8, kd64, kd2, kd3, km8, km64, kt8, ke8, ke64, kcl, kin, kle, klt, keq, up_s, up_n, up_u, true_and, and_true, false_implies, true_implies, not_false_eq_true, not_true_eq_false, ax, d4, q4]; refine b_X11_march_73 (b_X11_whyNotMarch_73 ?_); simp (disch := omega) only [pk_mul, nI_add, ksub, kdv, kd8, kd64, kd2, kd3, km8, km64, kt8, ke8, ke64, kcl, kin, kle, klt, keq, up_s, up_n, up_u, true_and, and_true, false_implies, true_implies, not_false_eq_true, not_true_eq_false, kzl, kl3, ax, dx, q4]; exact hQ _ _ f0)
  · have : x = 0 ∨ x = 1 ∨ x = 2 ∨ x = 3 := by omega
    rcases this with rfl | rfl | rfl | rfl
    · exact q_march_0 hC hM hk hS hQ
    · exact q_march_1 hC hM hk hS hQ
    · exact q_march_2 hC hM hk hS hQ
    · exact q_march_3 hC hM hk hS hQ
theorem q_length {e : am_V} {I : Nat → Nat → Int32} {L : Nat → Nat → Int64} {t : tw} {Q : Int32 → Int32 → (Nat → Nat → Int32) → Prop} {v1 : Int32} (hC : CT t I) (hM : MT t I) (hk : tok t) (hS : SL I L) (hQ : ∀ r J, fr SC FC I J → Q r r J) : C_X10_length_0 e v1 I L (fun r J => C_X11_length_73 e v1 J L (fun r' K => Q r r' K)) := by
  have f0 : fr SC FC I (va_up I 73 (va_up (I 73) 0 (nI 0))) := fr_73 (fr_refl _ _ _) rfl
  have q4 : ((-2 : Int32) = nI 0) = False := eq_false (by decide)
  rcases crl v1 3 (by decide) with ax | ⟨ax, dx⟩ | ⟨x, hx, rfl⟩
  · (refine b_X10_length_0 ?_; simp (disch := omega) only [pk_mul, nI_add, ksub, kdv, kd8, kd64, kd2, kd3, km8, km64, kt8, ke8, ke64, kcl, kin, kle, klt, keq, up_s, up_n, up_u, true_and, and_true, false_implies, true_implies, not_false_eq_true, not_true_eq_false, ax, q4]; refine b_X11_length_73 (b_X11_whyNotMarch_73 ?_); simp (disch := omega) only [pk_mul, nI_add, ksub, kdv, kd8, kd64, kd2, kd3, km8, km64, kt8, ke8, ke64, kcl, kin, kle, klt, keq, up_s, up_n, up_u, true_and, and_true, false_implies, true_implies, not_false_eq_true, not_true_eq_false, kzl, ax, q4]; exact hQ _ _ f0)
  · have d4 : nI 4 ≤ v1 := by
      rw [Int32.le_iff_toInt_le] at dx ⊢
      have h5 : (nI 3).toInt = 3 := rfl
      have h6 : (nI 4).toInt = 4 := rfl
      omega
    (refine b_X10_length_0 ?_; simp (disch := omega) only [pk_mul, nI_add, ksub, kdv, kd8, kd64, kd2, kd3, km8, km64, kt8, ke8, ke64, kcl, kin, kle, klt, keq, up_s, up_n, up_u, true_and, and_true, false_implies, true_implies, not_false_eq_true, not_true_eq_false, ax, d4, q4]; refine b_X11_length_73 (b_X11_whyNotMarch_73 ?_); simp (disch := omega) only [pk_mul, nI_add, ksub, kdv, kd8, kd64, kd2, kd3, km8, km64, kt8, ke8, ke64, kcl, kin, kle, klt, keq, up_s, up_n, up_u, true_and, and_true, false_implies, true_implies, not_false_eq_true, not_true_eq_false, kzl, kl3, ax, dx, q4]; exact hQ _ _ f0)
  · have : x = 0 ∨ x = 1 ∨ x = 2 ∨ x = 3 := by omega
    rcases this with rfl | rfl | rfl | rfl
    · exact q_length_0 hC hM hk hS hQ
    · exact q_length_1 hC hM hk hS hQ
    · exact q_length_2 hC hM hk hS hQ
    · exact q_length_3 hC hM hk hS hQ
theorem q_fits {e : am_V} {I : Nat → Nat → Int32} {L : Nat → Nat → Int64} {t : tw} {Q : Int32 → Int32 → (Nat → Nat → Int32) → Prop} {v1 : Int32} {v2 : Int32} (hC : CT t I) (hM : MT t I) (hk : tok t) (hS : SL I L) (hQ : ∀ r J, fr SC FC I J → Q r r J) : C_X10_fits_0 e v1 v2 I L (fun r J => C_X11_fits_73 e v1 v2 J L (fun r' K => Q r r' K)) := by
  have f0 : fr SC FC I (va_up I 73 (va_up (I 73) 0 (nI 0))) := fr_73 (fr_refl _ _ _) rfl
  have q4 : ((-2 : Int32) = nI 0) = False := eq_false (by decide)
  rcases crl v1 3 (by decide) with ax | ⟨ax, dx⟩ | ⟨x, hx, rfl⟩
  · (refine b_X10_fits_0 (b_X10_walkAsSeen_0 ?_); simp (disch := omega) only [pk_mul, nI_add, ksub, kdv, kd8, kd64, kd2, kd3, km8, km64, kt8, ke8, ke64, kcl, kin, kle, klt, keq, up_s, up_n, up_u, true_and, and_true, false_implies, true_implies, not_false_eq_true, not_true_eq_false, ax, q4]; refine b_X11_fits_73 (b_X11_whyNotSeen_73 ?_); simp (disch := omega) only [pk_mul, nI_add, ksub, kdv, kd8, kd64, kd2, kd3, km8, km64, kt8, ke8, ke64, kcl, kin, kle, klt, keq, up_s, up_n, up_u, true_and, and_true, false_implies, true_implies, not_false_eq_true, not_true_eq_false, kzl, ax, q4]; exact hQ _ _ f0)
  · have d4 : nI 4 ≤ v1 := by
      rw [Int32.le_iff_toInt_le] at dx ⊢
      have h5 : (nI 3).toInt = 3 := rfl
      have h6 : (nI 4).toInt = 4 := rfl
      omega
    (refine b_X10_fits_0 (b_X10_walkAsSeen_0 ?_); simp (disch := omega) only [pk_mul, nI_add, ksub, kdv, kd8, kd64, kd2, kd3, km8, km64, kt8, ke8, ke64, kcl, kin, kle, klt, keq, up_s, up_n, up_u, true_and, and_true, false_implies, true_implies, not_false_eq_true, not_true_eq_false, ax, d4, q4]; refine b_X11_fits_73 (b_X11_whyNotSeen_73 ?_); simp (disch := omega) only [pk_mul, nI_add, ksub, kdv, kd8, kd64, kd2, kd3, km8, km64, kt8, ke8, ke64, kcl, kin, kle, klt, keq, up_s, up_n, up_u, true_and, and_true, false_implies, true_implies, not_false_eq_true, not_true_eq_false, kzl, kl3, ax, dx, q4]; exact hQ _ _ f0)
  · have : x = 0 ∨ x = 1 ∨ x = 2 ∨ x = 3 := by omega
    rcases this with rfl | rfl | rfl | rfl
    · exact q_fits_0 hC hM hk hS hQ
    · exact q_fits_1 hC hM hk hS hQ
    · exact q_fits_2 hC hM hk hS hQ
    · exact q_fits_3 hC hM hk hS hQ
theorem q_gone {e : am_V} {I : Nat → Nat → Int32} {L : Nat → Nat → Int64} {t : tw} {Q : Int32 → Int32 → (Nat → Nat → Int32) → Prop} {v1 : Int32} {v2 : Int32} (hC : CT t I) (hM : MT t I) (hk : tok t) (hS : SL I L) (hQ : ∀ r J, fr SC FC I J → Q r r J) : C_X10_gone_0 e v1 v2 I L (fun r J => C_X11_gone_73 e v1 v2 J L (fun r' K => Q r r' K)) := by
  have f0 : fr SC FC I (va_up I 73 (va_up (I 73) 0 (nI 0))) := fr_73 (fr_refl _ _ _) rfl
  have q4 : ((-2 : Int32) = nI 0) = False := eq_false (by decide)
  rcases crl v1 3 (by decide) with ax | ⟨ax, dx⟩ | ⟨x, hx, rfl⟩
  · (refine b_X10_gone_0 (b_X10_walkAsSeen_0 ?_); simp (disch := omega) only [pk_mul, nI_add, ksub, kdv, kd8, kd64, kd2, kd3, km8, km64, kt8, ke8, ke64, kcl, kin, kle, klt, keq, up_s, up_n, up_u, true_and, and_true, false_implies, true_implies, not_false_eq_true, not_true_eq_false, ax, q4]; refine b_X11_gone_73 (b_X11_whyNotSeen_73 ?_); simp (disch := omega) only [pk_mul, nI_add, ksub, kdv, kd8, kd64, kd2, kd3, km8, km64, kt8, ke8, ke64, kcl, kin, kle, klt, keq, up_s, up_n, up_u, true_and, and_true, false_implies, true_implies, not_false_eq_true, not_true_eq_false, kzl, ax, q4]; exact hQ _ _ f0)
  · have d4 : nI 4 ≤ v1 := by
      rw [Int32.le_iff_toInt_le] at dx ⊢
      have h5 : (nI 3).toInt = 3 := rfl
      have h6 : (nI 4).toInt = 4 := rfl
      omega
    (refine b_X10_gone_0 (b_X10_walkAsSeen_0 ?_); simp (disch := omega) only [pk_mul, nI_add, ksub, kdv, kd8, kd64, kd2, kd3, km8, km64, kt8, ke8, ke64, kcl, kin, kle, klt, keq, up_s, up_n, up_u, true_and, and_true, false_implies, true_implies, not_false_eq_true, not_true_eq_false, ax, d4, q4]; refine b_X11_gone_73 (b_X11_whyNotSeen_73 ?_); simp (disch := omega) only [pk_mul, nI_add, ksub, kdv, kd8, kd64, kd2, kd3, km8, km64, kt8, ke8, ke64, kcl, kin, kle, klt, keq, up_s, up_n, up_u, true_and, and_true, false_implies, true_implies, not_false_eq_true, not_true_eq_false, kzl, kl3, ax, dx, q4]; exact hQ _ _ f0)
  · have : x = 0 ∨ x = 1 ∨ x = 2 ∨ x = 3 := by omega
    rcases this with rfl | rfl | rfl | rfl
    · exact q_gone_0 hC hM hk hS hQ
    · exact q_gone_1 hC hM hk hS hQ
    · exact q_gone_2 hC hM hk hS hQ
    · exact q_gone_3 hC hM hk hS hQ
