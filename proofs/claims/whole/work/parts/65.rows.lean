/-! slots: rows opened -/
theorem SL_r {I J : Nat → Nat → Int32} {L M : Nat → Nat → Int64} {x w c : Nat} (h : SL I L) (hw : w < 4) (hc : c ≤ 60) (j1 : J (29 + 2 * x) 1 = nI 1) (j2 : J (29 + 2 * x) 2 = nI w) (j3 : J (29 + 2 * x) 3 = nI c) (j4 : J 74 x = nI w) (j5 : J 75 x = nI c) (jr : ∀ s, s < 4 → s ≠ x → J (29 + 2 * s) = I (29 + 2 * s)) (j74 : ∀ k, k ≠ x → J 74 k = I 74 k) (j75 : ∀ k, k ≠ x → J 75 k = I 75 k) (m1 : ∀ k, k < c → M (30 + 2 * x) k = M 76 (60 * x + k)) (mr : ∀ s, s < 4 → s ≠ x → M (30 + 2 * s) = L (30 + 2 * s)) (m76 : ∀ s, s < 4 → s ≠ x → ∀ k, k < 60 → M 76 (60 * s + k) = L 76 (60 * s + k)) : SL J M := by
  intro s hs
  by_cases he : s = x
  · subst he
    exact Or.inr ⟨w, c, hw, hc, j1, j2, j3, j4, j5, m1⟩
  · rcases h s hs with ⟨a, b⟩ | ⟨w', c', hw', hc', a1, a2, a3, a4, a5, a6⟩
    · exact Or.inl ⟨by rw [jr s hs he]; exact a, by rw [j74 s he]; exact b⟩
    · refine Or.inr ⟨w', c', hw', hc', by rw [jr s hs he]; exact a1, by rw [jr s hs he]; exact a2, by rw [jr s hs he]; exact a3, by rw [j74 s he]; exact a4, by rw [j75 s he]; exact a5, fun k hk => ?_⟩
      rw [mr s hs he, m76 s hs he k (by omega)]
      exact a6 k hk
theorem Rel_s {B : tw → Nat × Nat × (Nat → Nat)} {e : am_V} {t : tw} {I J : Nat → Nat → Int32} {L M : Nat → Nat → Int64} {m : Nat} (h : Rel B e t I L m) (hr : ∀ a, a ≠ 29 → a ≠ 31 → a ≠ 33 → a ≠ 35 → a ≠ 73 → a ≠ 74 → a ≠ 75 → J a = I a) (h73 : ∀ k, k ≠ 0 → J 73 k = I 73 k) (hS : SL J M) : Rel B e t J M m := by
  obtain ⟨h1, h2, h3, h4, h5, h6, h7⟩ := h
  have g : ∀ a, (a < 29 ∨ 35 < a) → (a < 73 ∨ 75 < a) → J a = I a := fun a x y => hr a (by omega) (by omega) (by omega) (by omega) (by omega) (by omega) (by omega)
  exact ⟨h1, CTb_c (b := 3) (fun a h7 h8 => g a (by omega) (by omega)) h2, MT_w.mpr (MTw_c (fun a h7 h8 => g a (by omega) (by omega)) (MT_w.mp h3)), TP_c h4 (g 37 (by omega) (by omega)) (g 1 (by omega) (by omega)) (g 78 (by omega) (by omega)) (h73 6 (by decide)) (h73 14 (by decide)) (h73 15 (by decide)), hS, IM_c h6 (g 86 (by omega) (by omega)) (fun a ha => g a (by omega) (by omega)) (fun a h7 h8 => g a (by omega) (by omega)), OC_c h7 (g 0 (by omega) (by omega)) (g 51 (by omega) (by omega)) (g 61 (by omega) (by omega)) (Nat.le_refl _)⟩
theorem c_fill_30 {e : am_V} {I : Nat → Nat → Int32} {L : Nat → Nat → Int64} {v : Int64} {Q : (Nat → Nat → Int32) → (Nat → Nat → Int64) → Prop} (hQ : ∀ F, (∀ k, k < 60 → F k = v) → Q I (va_up L 30 F)) : C_J7_fill_d0a16_30 e v I L Q := by
  refine b_J7_fill_d0a16_30 ?_
  have e0 : L = va_up L 30 (L 30) := (up_id _ _).symm
  rw [e0]
  refine lp_up (n := 60) (S := Nat → Int64) (T := fun i F => T_J7_fill_d0a16_30_p6 e v (nI i) (nI 60) I (va_up L 30 F) Q) (fun i F => ∀ k, k < i → F k = v) ?_ ?_ 0 _ (Nat.zero_le _) (fun k hk => absurd hk (Nat.not_lt_zero k))
  · intro i F hi h1 hnext
    have q1 : (60 ≤ i) = False := eq_false (by omega)
    refine b_J7_fill_d0a16_30_p6 ?_
    simp (disch := omega) only [pk_mul, nI_add, ksub, kdv, kd8, kd64, kd2, kd3, km8, km64, kt8, ke8, ke64, kcl, kin, kle, klt, keq, up_s, up_n, up_u, true_and, and_true, false_implies, true_implies, not_false_eq_true, not_true_eq_false, q1]
    refine hnext _ (fun k hk => ?_)
    by_cases he : k = i
    · rw [he, up_s]
    · rw [up_n he]; exact h1 k (by omega)
  · intro F h1
    have q1 : (60 ≤ 60) = True := eq_true (Nat.le_refl _)
    refine b_J7_fill_d0a16_30_p6 ?_
    simp (disch := omega) only [pk_mul, nI_add, ksub, kdv, kd8, kd64, kd2, kd3, km8, km64, kt8, ke8, ke64, kcl, kin, kle, klt, keq, up_s, up_n, up_u, true_and, and_true, false_implies, true_implies, not_false_eq_true, not_true_eq_false, q1]
    exact hQ F h1
theorem w_row_0 {B : tw → Nat × Nat × (Nat → Nat)} {e : am_V} {I : Nat → Nat → Int32} {L : Nat → Nat → Int64} {t : tw} {m : Nat} {v2 v3 : Int32} {Q : Int32 → Int32 → (Nat → Nat → Int32) → (Nat → Nat → Int64) → Prop} (hR : Rel B e t I L m) (hQ : ∀ r J M, Rel B e t J M m → Q r r J M) : C_X10_row_0 e (nI 0) v2 v3 I L (fun r J M => C_X11_row_73 e (nI 0) v2 v3 J M (fun r' K N => Q r r' K N)) := by
  have f1 : Rel B e t (va_up I 73 (va_up (I 73) 0 (nI 0))) L m := Rel_q hR (fr_73 (fr_refl _ _ _) rfl) (frL_r L) (Nat.le_refl _)
  have gx : (0 ≤ 3) = True := eq_true (by decide)
  have hS := hR.2.2.2.2.1
  rcases crl v2 3 (by decide) with g | ⟨g, d⟩ | ⟨w, hw, rfl⟩
  · refine b_X10_row_0_c0 ?_
    simp (disch := omega) only [pk_mul, nI_add, ksub, kdv, kd8, kd64, kd2, kd3, km8, km64, kt8, ke8, ke64, kcl, kin, kle, klt, keq, up_s, up_n, up_u, true_and, and_true, false_implies, true_implies, not_false_eq_true, not_true_eq_false, g]
    refine b_X11_row_73 ?_
    simp (disch := omega) only [pk_mul, nI_add, ksub, kdv, kd8, kd64, kd2, kd3, km8, km64, kt8, ke8, ke64, kcl, kin, kle, klt, keq, up_s, up_n, up_u, true_and, and_true, false_implies, true_implies, not_false_eq_true, not_true_eq_false, kzl, kl3, knl, gx, g]
    exact hQ _ _ _ f1
  · have d4 : nI 4 ≤ v2 := by
      rw [Int32.le_iff_toInt_le] at d ⊢
      have h5 : (nI 3).toInt = 3 := rfl
      have h6 : (nI 4).toInt = 4 := rfl
      omega
    refine b_X10_row_0_c0 ?_
    simp (disch := omega) only [pk_mul, nI_add, ksub, kdv, kd8, kd64, kd2, kd3, km8, km64, kt8, ke8, ke64, kcl, kin, kle, klt, keq, up_s, up_n, up_u, true_and, and_true, false_implies, true_implies, not_false_eq_true, not_true_eq_false, g, d4]
    refine b_X11_row_73 ?_
    simp (disch := omega) only [pk_mul, nI_add, ksub, kdv, kd8, kd64, kd2, kd3, km8, km64, kt8, ke8, ke64, kcl, kin, kle, klt, keq, up_s, up_n, up_u, true_and, and_true, false_implies, true_implies, not_false_eq_true, not_true_eq_false, kzl, kl3, knl, gx, g, d]
    exact hQ _ _ _ f1
  · have gw : (w ≤ 3) = True := eq_true hw
    have gw2 : (4 ≤ w) = False := eq_false (by omega)
    by_cases h60 : v3 ≤ nI 60
    · by_cases h0 : nI 0 ≤ v3
      · have h0' : ¬ v3 < nI 0 := fun h => by
          rw [Int32.lt_iff_toInt_lt] at h
          rw [Int32.le_iff_toInt_le] at h0
          omega
        obtain ⟨c, hc, rfl⟩ := nI_of h0'
        rw [nI_leI hc (by decide)] at h60
        have gc : (c ≤ 60) = True := eq_true h60
        have gc0 : (0 ≤ c) = True := eq_true (Nat.zero_le _)
        refine b_X10_row_0_c0 ?_
        simp (disch := omega) only [pk_mul, nI_add, ksub, kdv, kd8, kd64, kd2, kd3, km8, km64, kt8, ke8, ke64, kcl, kin, kle, klt, keq, up_s, up_n, up_u, true_and, and_true, false_implies, true_implies, not_false_eq_true, not_true_eq_false, knl, gw2, gc, gc0]
        refine c_fill_30 (fun F hF => ?_)
        refine b_X11_row_73 ?_
        simp (disch := omega) only [pk_mul, nI_add, ksub, kdv, kd8, kd64, kd2, kd3, km8, km64, kt8, ke8, ke64, kcl, kin, kle, klt, keq, up_s, up_n, up_u, true_and, and_true, false_implies, true_implies, not_false_eq_true, not_true_eq_false, kzl, kl3, knl, gx, gw, gc, gc0]
        have e0 : va_up L 30 F = va_up (va_up L 30 F) 76 (L 76) := (up_id (va_up L 30 F) 76).symm
        rw [e0]
        refine lp_up (n := c) (S := Nat → Int64) (T := fun i G => T_X11_row_73_p57 e (nI 0) (nI c) (nI i) _ (va_up (va_up L 30 F) 76 G) _) (fun i G => (∀ k, k < i → G (60 * 0 + k) = (0 : Int64)) ∧ ∀ s, s < 4 → s ≠ 0 → ∀ k, k < 60 → G (60 * s + k) = L 76 (60 * s + k)) ?_ ?_ 0 _ (Nat.zero_le _) ⟨fun k hk => absurd hk (Nat.not_lt_zero k), fun _ _ _ _ _ => rfl⟩
        · rintro i G hi ⟨h1, h2⟩ hnext
          have q1 : (c ≤ i) = False := eq_false (by omega)
          refine b_X11_row_73_p57 ?_
          simp (disch := omega) only [pk_mul, nI_add, ksub, kdv, kd8, kd64, kd2, kd3, km8, km64, kt8, ke8, ke64, kcl, kin, kle, klt, keq, up_s, up_n, up_u, true_and, and_true, false_implies, true_implies, not_false_eq_true, not_true_eq_false, q1]
          refine hnext _ ⟨fun k hk => ?_, fun s h3 h4 k hk => ?_⟩
          · by_cases he : k = i
            · rw [he]
              simp (disch := omega) only [pk_mul, nI_add, ksub, kdv, kd8, kd64, kd2, kd3, km8, km64, kt8, ke8, ke64, kcl, kin, kle, klt, keq, up_s, up_n, up_u, true_and, and_true, false_implies, true_implies, not_false_eq_true, not_true_eq_false]
            · simp (disch := omega) only [pk_mul, nI_add, ksub, kdv, kd8, kd64, kd2, kd3, km8, km64, kt8, ke8, ke64, kcl, kin, kle, klt, keq, up_s, up_n, up_u, true_and, and_true, false_implies, true_implies, not_false_eq_true, not_true_eq_false]
              exact h1 k (by omega)
          · simp (disch := omega) only [pk_mul, nI_add, ksub, kdv, kd8, kd64, kd2, kd3, km8, km64, kt8, ke8, ke64, kcl, kin, kle, klt, keq, up_s, up_n, up_u, true_and, and_true, false_implies, true_implies, not_false_eq_true, not_true_eq_false]
            exact h2 s h3 h4 k hk
        · rintro G ⟨h1, h2⟩
          have q1 : (c ≤ c) = True := eq_true (Nat.le_refl _)
          refine b_X11_row_73_p57 ?_
          simp (disch := omega) only [pk_mul, nI_add, ksub, kdv, kd8, kd64, kd2, kd3, km8, km64, kt8, ke8, ke64, kcl, kin, kle, klt, keq, up_s, up_n, up_u, true_and, and_true, false_implies, true_implies, not_false_eq_true, not_true_eq_false, q1]
          refine hQ _ _ _ (Rel_s hR (fun a a1 a2 a3 a4 a5 a6 a7 => ?_) (fun k hk => ?_) (SL_r (x := 0) (w := w) (c := c) hS (by omega) h60 ?_ ?_ ?_ ?_ ?_ (fun s hs hn => ?_) (fun k hn => ?_) (fun k hn => ?_) (fun k hk => ?_) (fun s hs hn => ?_) (fun s hs hn k hk => ?_)))
          · simp (disch := omega) only [pk_mul, nI_add, ksub, kdv, kd8, kd64, kd2, kd3, km8, km64, kt8, ke8, ke64, kcl, kin, kle, klt, keq, up_s, up_n, up_u, true_and, and_true, false_implies, true_implies, not_false_eq_true, not_true_eq_false]
          · simp (disch := omega) only [pk_mul, nI_add, ksub, kdv, kd8, kd64, kd2, kd3, km8, km64, kt8, ke8, ke64, kcl, kin, kle, klt, keq, up_s, up_n, up_u, true_and, and_true, false_implies, true_implies, not_false_eq_true, not_true_eq_false]
          · simp (disch := omega) only [pk_mul, nI_add, ksub, kdv, kd8, kd64, kd2, kd3, km8, km64, kt8, ke8, ke64, kcl, kin, kle, klt, keq, up_s, up_n, up_u, true_and, and_true, false_implies, true_implies, not_false_eq_true, not_true_eq_false]
          · simp (disch := omega) only [pk_mul, nI_add, ksub, kdv, kd8, kd64, kd2, kd3, km8, km64, kt8, ke8, ke64, kcl, kin, kle, klt, keq, up_s, up_n, up_u, true_and, and_true, false_implies, true_implies, not_false_eq_true, not_true_eq_false]
          · simp (disch := omega) only [pk_mul, nI_add, ksub, kdv, kd8, kd64, kd2, kd3, km8, km64, kt8, ke8, ke64, kcl, kin, kle, klt, keq, up_s, up_n, up_u, true_and, and_true, false_implies, true_implies, not_false_eq_true, not_true_eq_false]
          · simp (disch := omega) only [pk_mul, nI_add, ksub, kdv, kd8, kd64, kd2, kd3, km8, km64, kt8, ke8, ke64, kcl, kin, kle, klt, keq, up_s, up_n, up_u, true_and, and_true, false_implies, true_implies, not_false_eq_true, not_true_eq_false]
          · simp (disch := omega) only [pk_mul, nI_add, ksub, kdv, kd8, kd64, kd2, kd3, km8, km64, kt8, ke8, ke64, kcl, kin, kle, klt, keq, up_s, up_n, up_u, true_and, and_true, false_implies, true_implies, not_false_eq_true, not_true_eq_false]
          · simp (disch := omega) only [pk_mul, nI_add, ksub, kdv, kd8, kd64, kd2, kd3, km8, km64, kt8, ke8, ke64, kcl, kin, kle, klt, keq, up_s, up_n, up_u, true_and, and_true, false_implies, true_implies, not_false_eq_true, not_true_eq_false]
          · simp (disch := omega) only [pk_mul, nI_add, ksub, kdv, kd8, kd64, kd2, kd3, km8, km64, kt8, ke8, ke64, kcl, kin, kle, klt, keq, up_s, up_n, up_u, true_and, and_true, false_implies, true_implies, not_false_eq_true, not_true_eq_false]
          · simp (disch := omega) only [pk_mul, nI_add, ksub, kdv, kd8, kd64, kd2, kd3, km8, km64, kt8, ke8, ke64, kcl, kin, kle, klt, keq, up_s, up_n, up_u, true_and, and_true, false_implies, true_implies, not_false_eq_true, not_true_eq_false]
          · have t1 : va_up (va_up L 30 F) 76 G (30 + 2 * 0) = F := rfl
            rw [t1, up_s, h1 k hk]
            exact hF k (by omega)
          · simp (disch := omega) only [pk_mul, nI_add, ksub, kdv, kd8, kd64, kd2, kd3, km8, km64, kt8, ke8, ke64, kcl, kin, kle, klt, keq, up_s, up_n, up_u, true_and, and_true, false_implies, true_implies, not_false_eq_true, not_true_eq_false]
          · rw [up_s]
            exact h2 s hs hn k hk
      · refine b_X10_row_0_c0 ?_
        simp (disch := omega) only [pk_mul, nI_add, ksub, kdv, kd8, kd64, kd2, kd3, km8, km64, kt8, ke8, ke64, kcl, kin, kle, klt, keq, up_s, up_n, up_u, true_and, and_true, false_implies, true_implies, not_false_eq_true, not_true_eq_false, knl, gw2, h60, h0]
        refine b_X11_row_73 ?_
        simp (disch := omega) only [pk_mul, nI_add, ksub, kdv, kd8, kd64, kd2, kd3, km8, km64, kt8, ke8, ke64, kcl, kin, kle, klt, keq, up_s, up_n, up_u, true_and, and_true, false_implies, true_implies, not_false_eq_true, not_true_eq_false, kzl, kl3, knl, gx, gw, h60, h0]
        exact hQ _ _ _ f1
    · refine b_X10_row_0_c0 ?_
      simp (disch := omega) only [pk_mul, nI_add, ksub, kdv, kd8, kd64, kd2, kd3, km8, km64, kt8, ke8, ke64, kcl, kin, kle, klt, keq, up_s, up_n, up_u, true_and, and_true, false_implies, true_implies, not_false_eq_true, not_true_eq_false, knl, gw2, h60]
      refine b_X11_row_73 ?_
      simp (disch := omega) only [pk_mul, nI_add, ksub, kdv, kd8, kd64, kd2, kd3, km8, km64, kt8, ke8, ke64, kcl, kin, kle, klt, keq, up_s, up_n, up_u, true_and, and_true, false_implies, true_implies, not_false_eq_true, not_true_eq_false, kzl, kl3, knl, gx, gw, h60]
      exact hQ _ _ _ f1
theorem c_fill_32 {e : am_V} {I : Nat → Nat → Int32} {L : Nat → Nat → Int64} {v : Int64} {Q : (Nat → Nat → Int32) → (Nat → Nat → Int64) → Prop} (hQ : ∀ F, (∀ k, k < 60 → F k = v) → Q I (va_up L 32 F)) : C_J7_fill_d0a16_32 e v I L Q := by
  refine b_J7_fill_d0a16_32 ?_
  have e0 : L = va_up L 32 (L 32) := (up_id _ _).symm
  rw [e0]
  refine lp_up (n := 60) (S := Nat → Int64) (T := fun i F => T_J7_fill_d0a16_32_p6 e v (nI i) (nI 60) I (va_up L 32 F) Q) (fun i F => ∀ k, k < i → F k = v) ?_ ?_ 0 _ (Nat.zero_le _) (fun k hk => absurd hk (Nat.not_lt_zero k))
  · intro i F hi h1 hnext
    have q1 : (60 ≤ i) = False := eq_false (by omega)
    refine b_J7_fill_d0a16_32_p6 ?_
    simp (disch := omega) only [pk_mul, nI_add, ksub, kdv, kd8, kd64, kd2, kd3, km8, km64, kt8, ke8, ke64, kcl, kin, kle, klt, keq, up_s, up_n, up_u, true_and, and_true, false_implies, true_implies, not_false_eq_true, not_true_eq_false, q1]
    refine hnext _ (fun k hk => ?_)
    by_cases he : k = i
    · rw [he, up_s]
    · rw [up_n he]; exact h1 k (by omega)
  · intro F h1
    have q1 : (60 ≤ 60) = True := eq_true (Nat.le_refl _)
    refine b_J7_fill_d0a16_32_p6 ?_
    simp (disch := omega) only [pk_mul, nI_add, ksub, kdv, kd8, kd64, kd2, kd3, km8, km64, kt8, ke8, ke64, kcl, kin, kle, klt, keq, up_s, up_n, up_u, true_and, and_true, false_implies, true_implies, not_false_eq_true, not_true_eq_false, q1]
    exact hQ F h1
theorem w_row_1 {B : tw → Nat × Nat × (Nat → Nat)} {e : am_V} {I : Nat → Nat → Int32} {L : Nat → Nat → Int64} {t : tw} {m : Nat} {v2 v3 : Int32} {Q : Int32 → Int32 → (Nat → Nat → Int32) → (Nat → Nat → Int64) → Prop} (hR : Rel B e t I L m) (hQ : ∀ r J M, Rel B e t J M m → Q r r J M) : C_X10_row_0 e (nI 1) v2 v3 I L (fun r J M => C_X11_row_73 e (nI 1) v2 v3 J M (fun r' K N => Q r r' K N)) := by
  have f1 : Rel B e t (va_up I 73 (va_up (I 73) 0 (nI 0))) L m := Rel_q hR (fr_73 (fr_refl _ _ _) rfl) (frL_r L) (Nat.le_refl _)
  have gx : (1 ≤ 3) = True := eq_true (by decide)
  have hS := hR.2.2.2.2.1
  rcases crl v2 3 (by decide) with g | ⟨g, d⟩ | ⟨w, hw, rfl⟩
  · refine b_X10_row_0_c1 ?_
    simp (disch := omega) only [pk_mul, nI_add, ksub, kdv, kd8, kd64, kd2, kd3, km8, km64, kt8, ke8, ke64, kcl, kin, kle, klt, keq, up_s, up_n, up_u, true_and, and_true, false_implies, true_implies, not_false_eq_true, not_true_eq_false, g]
    refine b_X11_row_73 ?_
    simp (disch := omega) only [pk_mul, nI_add, ksub, kdv, kd8, kd64, kd2, kd3, km8, km64, kt8, ke8, ke64, kcl, kin, kle, klt, keq, up_s, up_n, up_u, true_and, and_true, false_implies, true_implies, not_false_eq_true, not_true_eq_false, kzl, kl3, knl, gx, g]
    exact hQ _ _ _ f1
  · have d4 : nI 4 ≤ v2 := by
      rw [Int32.le_iff_toInt_le] at d ⊢
      have h5 : (nI 3).toInt = 3 := rfl
      have h6 : (nI 4).toInt = 4 := rfl
      omega
    refine b_X10_row_0_c1 ?_
    simp (disch := omega) only [pk_mul, nI_add, ksub, kdv, kd8, kd64, kd2, kd3, km8, km64, kt8, ke8, ke64, kcl, kin, kle, klt, keq, up_s, up_n, up_u, true_and, and_true, false_implies, true_implies, not_false_eq_true, not_true_eq_false, g, d4]
    refine b_X11_row_73 ?_
    simp (disch := omega) only [pk_mul, nI_add, ksub, kdv, kd8, kd64, kd2, kd3, km8, km64, kt8, ke8, ke64, kcl, kin, kle, klt, keq, up_s, up_n, up_u, true_and, and_true, false_implies, true_implies, not_false_eq_true, not_true_eq_false, kzl, kl3, knl, gx, g, d]
    exact hQ _ _ _ f1
  · have gw : (w ≤ 3) = True := eq_true hw
    have gw2 : (4 ≤ w) = False := eq_false (by omega)
    by_cases h60 : v3 ≤ nI 60
    · by_cases h0 : nI 0 ≤ v3
      · have h0' : ¬ v3 < nI 0 := fun h => by
          rw [Int32.lt_iff_toInt_lt] at h
          rw [Int32.le_iff_toInt_le] at h0
          omega
        obtain ⟨c, hc, rfl⟩ := nI_of h0'
        rw [nI_leI hc (by decide)] at h60
        have gc : (c ≤ 60) = True := eq_true h60
        have gc0 : (0 ≤ c) = True := eq_true (Nat.zero_le _)
        refine b_X10_row_0_c1 ?_
        simp (disch := omega) only [pk_mul, nI_add, ksub, kdv, kd8, kd64, kd2, kd3, km8, km64, kt8, ke8, ke64, kcl, kin, kle, klt, keq, up_s, up_n, up_u, true_and, and_true, false_implies, true_implies, not_false_eq_true, not_true_eq_false, knl, gw2, gc, gc0]
        refine c_fill_32 (fun F hF => ?_)
        refine b_X11_row_73 ?_
        simp (disch := omega) only [pk_mul, nI_add, ksub, kdv, kd8, kd64, kd2, kd3, km8, km64, kt8, ke8, ke64, kcl, kin, kle, klt, keq, up_s, up_n, up_u, true_and, and_true, false_implies, true_implies, not_false_eq_true, not_true_eq_false, kzl, kl3, knl, gx, gw, gc, gc0]
        have e0 : va_up L 32 F = va_up (va_up L 32 F) 76 (L 76) := (up_id (va_up L 32 F) 76).symm
        rw [e0]
        refine lp_up (n := c) (S := Nat → Int64) (T := fun i G => T_X11_row_73_p57 e (nI 1) (nI c) (nI i) _ (va_up (va_up L 32 F) 76 G) _) (fun i G => (∀ k, k < i → G (60 * 1 + k) = (0 : Int64)) ∧ ∀ s, s < 4 → s ≠ 1 → ∀ k, k < 60 → G (60 * s + k) = L 76 (60 * s + k)) ?_ ?_ 0 _ (Nat.zero_le _) ⟨fun k hk => absurd hk (Nat.not_lt_zero k), fun _ _ _ _ _ => rfl⟩
        · rintro i G hi ⟨h1, h2⟩ hnext
          have q1 : (c ≤ i) = False := eq_false (by omega)
          refine b_X11_row_73_p57 ?_
          simp (disch := omega) only [pk_mul, nI_add, ksub, kdv, kd8, kd64, kd2, kd3, km8, km64, kt8, ke8, ke64, kcl, kin, kle, klt, keq, up_s, up_n, up_u, true_and, and_true, false_implies, true_implies, not_false_eq_true, not_true_eq_false, q1]
          refine hnext _ ⟨fun k hk => ?_, fun s h3 h4 k hk => ?_⟩
          · by_cases he : k = i
            · rw [he]
              simp (disch := omega) only [pk_mul, nI_add, ksub, kdv, kd8, kd64, kd2, kd3, km8, km64, kt8, ke8, ke64, kcl, kin, kle, klt, keq, up_s, up_n, up_u, true_and, and_true, false_implies, true_implies, not_false_eq_true, not_true_eq_false]
            · simp (disch := omega) only [pk_mul, nI_add, ksub, kdv, kd8, kd64, kd2, kd3, km8, km64, kt8, ke8, ke64, kcl, kin, kle, klt, keq, up_s, up_n, up_u, true_and, and_true, false_implies, true_implies, not_false_eq_true, not_true_eq_false]
              exact h1 k (by omega)
          · simp (disch := omega) only [pk_mul, nI_add, ksub, kdv, kd8, kd64, kd2, kd3, km8, km64, kt8, ke8, ke64, kcl, kin, kle, klt, keq, up_s, up_n, up_u, true_and, and_true, false_implies, true_implies, not_false_eq_true, not_true_eq_false]
            exact h2 s h3 h4 k hk
        · rintro G ⟨h1, h2⟩
          have q1 : (c ≤ c) = True := eq_true (Nat.le_refl _)
          refine b_X11_row_73_p57 ?_
          simp (disch := omega) only [pk_mul, nI_add, ksub, kdv, kd8, kd64, kd2, kd3, km8, km64, kt8, ke8, ke64, kcl, kin, kle, klt, keq, up_s, up_n, up_u, true_and, and_true, false_implies, true_implies, not_false_eq_true, not_true_eq_false, q1]
          refine hQ _ _ _ (Rel_s hR (fun a a1 a2 a3 a4 a5 a6 a7 => ?_) (fun k hk => ?_) (SL_r (x := 1) (w := w) (c := c) hS (by omega) h60 ?_ ?_ ?_ ?_ ?_ (fun s hs hn => ?_) (fun k hn => ?_) (fun k hn => ?_) (fun k hk => ?_) (fun s hs hn => ?_) (fun s hs hn k hk => ?_)))
          · simp (disch := omega) only [pk_mul, nI_add, ksub, kdv, kd8, kd64, kd2, kd3, km8, km64, kt8, ke8, ke64, kcl, kin, kle, klt, keq, up_s, up_n, up_u, true_and, and_true, false_implies, true_implies, not_false_eq_true, not_true_eq_false]
          · simp (disch := omega) only [pk_mul, nI_add, ksub, kdv, kd8, kd64, kd2, kd3, km8, km64, kt8, ke8, ke64, kcl, kin, kle, klt, keq, up_s, up_n, up_u, true_and, and_true, false_implies, true_implies, not_false_eq_true, not_true_eq_false]
          · simp (disch := omega) only [pk_mul, nI_add, ksub, kdv, kd8, kd64, kd2, kd3, km8, km64, kt8, ke8, ke64, kcl, kin, kle, klt, keq, up_s, up_n, up_u, true_and, and_true, false_implies, true_implies, not_false_eq_true, not_true_eq_false]
          · simp (disch := omega) only [pk_mul, nI_add, ksub, kdv, kd8, kd64, kd2, kd3, km8, km64, kt8, ke8, ke64, kcl, kin, kle, klt, keq, up_s, up_n, up_u, true_and, and_true, false_implies, true_implies, not_false_eq_true, not_true_eq_false]
          · simp (disch := omega) only [pk_mul, nI_add, ksub, kdv, kd8, kd64, kd2, kd3, km8, km64, kt8, ke8, ke64, kcl, kin, kle, klt, keq, up_s, up_n, up_u, true_and, and_true, false_implies, true_implies, not_false_eq_true, not_true_eq_false]
          · simp (disch := omega) only [pk_mul, nI_add, ksub, kdv, kd8, kd64, kd2, kd3, km8, km64, kt8, ke8, ke64, kcl, kin, kle, klt, keq, up_s, up_n, up_u, true_and, and_true, false_implies, true_implies, not_false_eq_true, not_true_eq_false]
          · simp (disch := omega) only [pk_mul, nI_add, ksub, kdv, kd8, kd64, kd2, kd3, km8, km64, kt8, ke8, ke64, kcl, kin, kle, klt, keq, up_s, up_n, up_u, true_and, and_true, false_implies, true_implies, not_false_eq_true, not_true_eq_false]
          · simp (disch := omega) only [pk_mul, nI_add, ksub, kdv, kd8, kd64, kd2, kd3, km8, km64, kt8, ke8, ke64, kcl, kin, kle, klt, keq, up_s, up_n, up_u, true_and, and_true, false_implies, true_implies, not_false_eq_true, not_true_eq_false]
          · simp (disch := omega) only [pk_mul, nI_add, ksub, kdv, kd8, kd64, kd2, kd3, km8, km64, kt8, ke8, ke64, kcl, kin, kle, klt, keq, up_s, up_n, up_u, true_and, and_true, false_implies, true_implies, not_false_eq_true, not_true_eq_false]
          · simp (disch := omega) only [pk_mul, nI_add, ksub, kdv, kd8, kd64, kd2, kd3, km8, km64, kt8, ke8, ke64, kcl, kin, kle, klt, keq, up_s, up_n, up_u, true_and, and_true, false_implies, true_implies, not_false_eq_true, not_true_eq_false]
          · have t1 : va_up (va_up L 32 F) 76 G (30 + 2 * 1) = F := rfl
            rw [t1, up_s, h1 k hk]
            exact hF k (by omega)
          · simp (disch := omega) only [pk_mul, nI_add, ksub, kdv, kd8, kd64, kd2, kd3, km8, km64, kt8, ke8, ke64, kcl, kin, kle, klt, keq, up_s, up_n, up_u, true_and, and_true, false_implies, true_implies, not_false_eq_true, not_true_eq_false]
          · rw [up_s]
            exact h2 s hs hn k hk
      · refine b_X10_row_0_c1 ?_
        simp (disch := omega) only [pk_mul, nI_add, ksub, kdv, kd8, kd64, kd2, kd3, km8, km64, kt8, ke8, ke64, kcl, kin, kle, klt, keq, up_s, up_n, up_u, true_and, and_true, false_implies, true_implies, not_false_eq_true, not_true_eq_false, knl, gw2, h60, h0]
        refine b_X11_row_73 ?_
        simp (disch := omega) only [pk_mul, nI_add, ksub, kdv, kd8, kd64, kd2, kd3, km8, km64, kt8, ke8, ke64, kcl, kin, kle, klt, keq, up_s, up_n, up_u, true_and, and_true, false_implies, true_implies, not_false_eq_true, not_true_eq_false, kzl, kl3, knl, gx, gw, h60, h0]
        exact hQ _ _ _ f1
    · refine b_X10_row_0_c1 ?_
      simp (disch := omega) only [pk_mul, nI_add, ksub, kdv, kd8, kd64, kd2, kd3, km8, km64, kt8, ke8, ke64, kcl, kin, kle, klt, keq, up_s, up_n, up_u, true_and, and_true, false_implies, true_implies, not_false_eq_true, not_true_eq_false, knl, gw2, h60]
      refine b_X11_row_73 ?_
      simp (disch := omega) only [pk_mul, nI_add, ksub, kdv, kd8, kd64, kd2, kd3, km8, km64, kt8, ke8, ke64, kcl, kin, kle, klt, keq, up_s, up_n, up_u, true_and, and_true, false_implies, true_implies, not_false_eq_true, not_true_eq_false, kzl, kl3, knl, gx, gw, h60]
      exact hQ _ _ _ f1
theorem c_fill_34 {e : am_V} {I : Nat → Nat → Int32} {L : Nat → Nat → Int64} {v : Int64} {Q : (Nat → Nat → Int32) → (Nat → Nat → Int64) → Prop} (hQ : ∀ F, (∀ k, k < 60 → F k = v) → Q I (va_up L 34 F)) : C_J7_fill_d0a16_34 e v I L Q := by
  refine b_J7_fill_d0a16_34 ?_
  have e0 : L = va_up L 34 (L 34) := (up_id _ _).symm
  rw [e0]
  refine lp_up (n := 60) (S := Nat → Int64) (T := fun i F => T_J7_fill_d0a16_34_p6 e v (nI i) (nI 60) I (va_up L 34 F) Q) (fun i F => ∀ k, k < i → F k = v) ?_ ?_ 0 _ (Nat.zero_le _) (fun k hk => absurd hk (Nat.not_lt_zero k))
  · intro i F hi h1 hnext
    have q1 : (60 ≤ i) = False := eq_false (by omega)
    refine b_J7_fill_d0a16_34_p6 ?_
    simp (disch := omega) only [pk_mul, nI_add, ksub, kdv, kd8, kd64, kd2, kd3, km8, km64, kt8, ke8, ke64, kcl, kin, kle, klt, keq, up_s, up_n, up_u, true_and, and_true, false_implies, true_implies, not_false_eq_true, not_true_eq_false, q1]
    refine hnext _ (fun k hk => ?_)
    by_cases he : k = i
    · rw [he, up_s]
    · rw [up_n he]; exact h1 k (by omega)
  · intro F h1
    have q1 : (60 ≤ 60) = True := eq_true (Nat.le_refl _)
    refine b_J7_fill_d0a16_34_p6 ?_
    simp (disch := omega) only [pk_mul, nI_add, ksub, kdv, kd8, kd64, kd2, kd3, km8, km64, kt8, ke8, ke64, kcl, kin, kle, klt, keq, up_s, up_n, up_u, true_and, and_true, false_implies, true_implies, not_false_eq_true, not_true_eq_false, q1]
    exact hQ F h1
theorem w_row_2 {B : tw → Nat × Nat × (Nat → Nat)} {e : am_V} {I : Nat → Nat → Int32} {L : Nat → Nat → Int64} {t : tw} {m : Nat} {v2 v3 : Int32} {Q : Int32 → Int32 → (Nat → Nat → Int32) → (Nat → Nat → Int64) → Prop} (hR : Rel B e t I L m) (hQ : ∀ r J M, Rel B e t J M m → Q r r J M) : C_X10_row_0 e (nI 2) v2 v3 I L (fun r J M => C_X11_row_73 e (nI 2) v2 v3 J M (fun r' K N => Q r r' K N)) := by
  have f1 : Rel B e t (va_up I 73 (va_up (I 73) 0 (nI 0))) L m := Rel_q hR (fr_73 (fr_refl _ _ _) rfl) (frL_r L) (Nat.le_refl _)
  have gx : (2 ≤ 3) = True := eq_true (by decide)
  have hS := hR.2.2.2.2.1
  rcases crl v2 3 (by decide) with g | ⟨g, d⟩ | ⟨w, hw, rfl⟩
  · refine b_X10_row_0_c2 ?_
    simp (disch := omega) only [pk_mul, nI_add, ksub, kdv, kd8, kd64, kd2, kd3, km8, km64, kt8, ke8, ke64, kcl, kin, kle, klt, keq, up_s, up_n, up_u, true_and, and_true, false_implies, true_implies, not_false_eq_true, not_true_eq_false, g]
    refine b_X11_row_73 ?_
    simp (disch := omega) only [pk_mul, nI_add, ksub, kdv, kd8, kd64, kd2, kd3, km8, km64, kt8, ke8, ke64, kcl, kin, kle, klt, keq, up_s, up_n, up_u, true_and, and_true, false_implies, true_implies, not_false_eq_true, not_true_eq_false, kzl, kl3, knl, gx, g]
    exact hQ _ _ _ f1
  · have d4 : nI 4 ≤ v2 := by
      rw [Int32.le_iff_toInt_le] at d ⊢
      have h5 : (nI 3).toInt = 3 := rfl
      have h6 : (nI 4).toInt = 4 := rfl
      omega
    refine b_X10_row_0_c2 ?_
    simp (disch := omega) only [pk_mul, nI_add, ksub, kdv, kd8, kd64, kd2, kd3, km8, km64, kt8, ke8, ke64, kcl, kin, kle, klt, keq, up_s, up_n, up_u, true_and, and_true, false_implies, true_implies, not_false_eq_true, not_true_eq_false, g, d4]
    refine b_X11_row_73 ?_
    simp (disch := omega) only [pk_mul, nI_add, ksub, kdv, kd8, kd64, kd2, kd3, km8, km64, kt8, ke8, ke64, kcl, kin, kle, klt, keq, up_s, up_n, up_u, true_and, and_true, false_implies, true_implies, not_false_eq_true, not_true_eq_false, kzl, kl3, knl, gx, g, d]
    exact hQ _ _ _ f1
  · have gw : (w ≤ 3) = True := eq_true hw
    have gw2 : (4 ≤ w) = False := eq_false (by omega)
    by_cases h60 : v3 ≤ nI 60
    · by_cases h0 : nI 0 ≤ v3
      · have h0' : ¬ v3 < nI 0 := fun h => by
          rw [Int32.lt_iff_toInt_lt] at h
          rw [Int32.le_iff_toInt_le] at h0
          omega
        obtain ⟨c, hc, rfl⟩ := nI_of h0'
        rw [nI_leI hc (by decide)] at h60
        have gc : (c ≤ 60) = True := eq_true h60
        have gc0 : (0 ≤ c) = True := eq_true (Nat.zero_le _)
        refine b_X10_row_0_c2 ?_
        simp (disch := omega) only [pk_mul, nI_add, ksub, kdv, kd8, kd64, kd2, kd3, km8, km64, kt8, ke8, ke64, kcl, kin, kle, klt, keq, up_s, up_n, up_u, true_and, and_true, false_implies, true_implies, not_false_eq_true, not_true_eq_false, knl, gw2, gc, gc0]
        refine c_fill_34 (fun F hF => ?_)
        refine b_X11_row_73 ?_
        simp (disch := omega) only [pk_mul, nI_add, ksub, kdv, kd8, kd64, kd2, kd3, km8, km64, kt8, ke8, ke64, kcl, kin, kle, klt, keq, up_s, up_n, up_u, true_and, and_true, false_implies, true_implies, not_false_eq_true, not_true_eq_false, kzl, kl3, knl, gx, gw, gc, gc0]
        have e0 : va_up L 34 F = va_up (va_up L 34 F) 76 (L 76) := (up_id (va_up L 34 F) 76).symm
        rw [e0]
        refine lp_up (n := c) (S := Nat → Int64) (T := fun i G => T_X11_row_73_p57 e (nI 2) (nI c) (nI i) _ (va_up (va_up L 34 F) 76 G) _) (fun i G => (∀ k, k < i → G (60 * 2 + k) = (0 : Int64)) ∧ ∀ s, s < 4 → s ≠ 2 → ∀ k, k < 60 → G (60 * s + k) = L 76 (60 * s + k)) ?_ ?_ 0 _ (Nat.zero_le _) ⟨fun k hk => absurd hk (Nat.not_lt_zero k), fun _ _ _ _ _ => rfl⟩
        · rintro i G hi ⟨h1, h2⟩ hnext
          have q1 : (c ≤ i) = False := eq_false (by omega)
          refine b_X11_row_73_p57 ?_
          simp (disch := omega) only [pk_mul, nI_add, ksub, kdv, kd8, kd64, kd2, kd3, km8, km64, kt8, ke8, ke64, kcl, kin, kle, klt, keq, up_s, up_n, up_u, true_and, and_true, false_implies, true_implies, not_false_eq_true, not_true_eq_false, q1]
          refine hnext _ ⟨fun k hk => ?_, fun s h3 h4 k hk => ?_⟩
          · by_cases he : k = i
            · rw [he]
              simp (disch := omega) only [pk_mul, nI_add, ksub, kdv, kd8, kd64, kd2, kd3, km8, km64, kt8, ke8, ke64, kcl, kin, kle, klt, keq, up_s, up_n, up_u, true_and, and_true, false_implies, true_implies, not_false_eq_true, not_true_eq_false]
            · simp (disch := omega) only [pk_mul, nI_add, ksub, kdv, kd8, kd64, kd2, kd3, km8, km64, kt8, ke8, ke64, kcl, kin, kle, klt, keq, up_s, up_n, up_u, true_and, and_true, false_implies, true_implies, not_false_eq_true, not_true_eq_false]
              exact h1 k (by omega)
          · simp (disch := omega) only [pk_mul, nI_add, ksub, kdv, kd8, kd64, kd2, kd3, km8, km64, kt8, ke8, ke64, kcl, kin, kle, klt, keq, up_s, up_n, up_u, true_and, and_true, false_implies, true_implies, not_false_eq_true, not_true_eq_false]
            exact h2 s h3 h4 k hk
        · rintro G ⟨h1, h2⟩
          have q1 : (c ≤ c) = True := eq_true (Nat.le_refl _)
          refine b_X11_row_73_p57 ?_
          simp (disch := omega) only [pk_mul, nI_add, ksub, kdv, kd8, kd64, kd2, kd3, km8, km64, kt8, ke8, ke64, kcl, kin, kle, klt, keq, up_s, up_n, up_u, true_and, and_true, false_implies, true_implies, not_false_eq_true, not_true_eq_false, q1]
          refine hQ _ _ _ (Rel_s hR (fun a a1 a2 a3 a4 a5 a6 a7 => ?_) (fun k hk => ?_) (SL_r (x := 2) (w := w) (c := c) hS (by omega) h60 ?_ ?_ ?_ ?_ ?_ (fun s hs hn => ?_) (fun k hn => ?_) (fun k hn => ?_) (fun k hk => ?_) (fun s hs hn => ?_) (fun s hs hn k hk => ?_)))
          · simp (disch := omega) only [pk_mul, nI_add, ksub, kdv, kd8, kd64, kd2, kd3, km8, km64, kt8, ke8, ke64, kcl, kin, kle, klt, keq, up_s, up_n, up_u, true_and, and_true, false_implies, true_implies, not_false_eq_true, not_true_eq_false]
          · simp (disch := omega) only [pk_mul, nI_add, ksub, kdv, kd8, kd64, kd2, kd3, km8, km64, kt8, ke8, ke64, kcl, kin, kle, klt, keq, up_s, up_n, up_u, true_and, and_true, false_implies, true_implies, not_false_eq_true, not_true_eq_false]
          · simp (disch := omega) only [pk_mul, nI_add, ksub, kdv, kd8, kd64, kd2, kd3, km8, km64, kt8, ke8, ke64, kcl, kin, kle, klt, keq, up_s, up_n, up_u, true_and, and_true, false_implies, true_implies, not_false_eq_true, not_true_eq_false]
          · simp (disch := omega) only [pk_mul, nI_add, ksub, kdv, kd8, kd64, kd2, kd3, km8, km64, kt8, ke8, ke64, kcl, kin, kle, klt, keq, up_s, up_n, up_u, true_and, and_true, false_implies, true_implies, not_false_eq_true, not_true_eq_false]
          · simp (disch := omega) only [pk_mul, nI_add, ksub, kdv, kd8, kd64, kd2, kd3, km8, km64, kt8, ke8, ke64, kcl, kin, kle, klt, keq, up_s, up_n, up_u, true_and, and_true, false_implies, true_implies, not_false_eq_true, not_true_eq_false]
          · simp (disch := omega) only [pk_mul, nI_add, ksub, kdv, kd8, kd64, kd2, kd3, km8, km64, kt8, ke8, ke64, kcl, kin, kle, klt, keq, up_s, up_n, up_u, true_and, and_true, false_implies, true_implies, not_false_eq_true, not_true_eq_false]
          · simp (disch := omega) only [pk_mul, nI_add, ksub, kdv, kd8, kd64, kd2, kd3, km8, km64, kt8, ke8, ke64, kcl, kin, kle, klt, keq, up_s, up_n, up_u, true_and, and_true, false_implies, true_implies, not_false_eq_true, not_true_eq_false]
          · simp (disch := omega) only [pk_mul, nI_add, ksub, kdv, kd8, kd64, kd2, kd3, km8, km64, kt8, ke8, ke64, kcl, kin, kle, klt, keq, up_s, up_n, up_u, true_and, and_true, false_implies, true_implies, not_false_eq_true, not_true_eq_false]
          · simp (disch := omega) only [pk_mul, nI_add, ksub, kdv, kd8, kd64, kd2, kd3, km8, km64, kt8, ke8, ke64, kcl, kin, kle, klt, keq, up_s, up_n, up_u, true_and, and_true, false_implies, true_implies, not_false_eq_true, not_true_eq_false]
          · simp (disch := omega) only [pk_mul, nI_add, ksub, kdv, kd8, kd64, kd2, kd3, km8, km64, kt8, ke8, ke64, kcl, kin, kle, klt, keq, up_s, up_n, up_u, true_and, and_true, false_implies, true_implies, not_false_eq_true, not_true_eq_false]
          · have t1 : va_up (va_up L 34 F) 76 G (30 + 2 * 2) = F := rfl
            rw [t1, up_s, h1 k hk]
            exact hF k (by omega)
          · simp (disch := omega) only [pk_mul, nI_add, ksub, kdv, kd8, kd64, kd2, kd3, km8, km64, kt8, ke8, ke64, kcl, kin, kle, klt, keq, up_s, up_n, up_u, true_and, and_true, false_implies, true_implies, not_false_eq_true, not_true_eq_false]
          · rw [up_s]
            exact h2 s hs hn k hk
      · refine b_X10_row_0_c2 ?_
        simp (disch := omega) only [pk_mul, nI_add, ksub, kdv, kd8, kd64, kd2, kd3, km8, km64, kt8, ke8, ke64, kcl, kin, kle, klt, keq, up_s, up_n, up_u, true_and, and_true, false_implies, true_implies, not_false_eq_true, not_true_eq_false, knl, gw2, h60, h0]
        refine b_X11_row_73 ?_
        simp (disch := omega) only [pk_mul, nI_add, ksub, kdv, kd8, kd64, kd2, kd3, km8, km64, kt8, ke8, ke64, kcl, kin, kle, klt, keq, up_s, up_n, up_u, true_and, and_true, false_implies, true_implies, not_false_eq_true, not_true_eq_false, kzl, kl3, knl, gx, gw, h60, h0]
        exact hQ _ _ _ f1
    · refine b_X10_row_0_c2 ?_
      simp (disch := omega) only [pk_mul, nI_add, ksub, kdv, kd8, kd64, kd2, kd3, km8, km64, kt8, ke8, ke64, kcl, kin, kle, klt, keq, up_s, up_n, up_u, true_and, and_true, false_implies, true_implies, not_false_eq_true, not_true_eq_false, knl, gw2, h60]
      refine b_X11_row_73 ?_
      simp (disch := omega) only [pk_mul, nI_add, ksub, kdv, kd8, kd64, kd2, kd3, km8, km64, kt8, ke8, ke64, kcl, kin, kle, klt, keq, up_s, up_n, up_u, true_and, and_true, false_implies, true_implies, not_false_eq_true, not_true_eq_false, kzl, kl3, knl, gx, gw, h60]
      exact hQ _ _ _ f1
theorem c_fill_36 {e : am_V} {I : Nat → Nat → Int32} {L : Nat → Nat → Int64} {v : Int64} {Q : (Nat → Nat → Int32) → (Nat → Nat → Int64) → Prop} (hQ : ∀ F, (∀ k, k < 60 → F k = v) → Q I (va_up L 36 F)) : C_J7_fill_d0a16_36 e v I L Q := by
  refine b_J7_fill_d0a16_36 ?_
  have e0 : L = va_up L 36 (L 36) := (up_id _ _).symm
  rw [e0]
  refine lp_up (n := 60) (S := Nat → Int64) (T := fun i F => T_J7_fill_d0a16_36_p6 e v (nI i) (nI 60) I (va_up L 36 F) Q) (fun i F => ∀ k, k < i → F k = v) ?_ ?_ 0 _ (Nat.zero_le _) (fun k hk => absurd hk (Nat.not_lt_zero k))
  · intro i F hi h1 hnext
    have q1 : (60 ≤ i) = False := eq_false (by omega)
    refine b_J7_fill_d0a16_36_p6 ?_
    simp (disch := omega) only [pk_mul, nI_add, ksub, kdv, kd8, kd64, kd2, kd3, km8, km64, kt8, ke8, ke64, kcl, kin, kle, klt, keq, up_s, up_n, up_u, true_and, and_true, false_implies, true_implies, not_false_eq_true, not_true_eq_false, q1]
    refine hnext _ (fun k hk => ?_)
    by_cases he : k = i
    · rw [he, up_s]
    · rw [up_n he]; exact h1 k (by omega)
  · intro F h1
    have q1 : (60 ≤ 60) = True := eq_true (Nat.le_refl _)
    refine b_J7_fill_d0a16_36_p6 ?_
    simp (disch := omega) only [pk_mul, nI_add, ksub, kdv, kd8, kd64, kd2, kd3, km8, km64, kt8, ke8, ke64, kcl, kin, kle, klt, keq, up_s, up_n, up_u, true_and, and_true, false_implies, true_implies, not_false_eq_true, not_true_eq_false, q1]
    exact hQ F h1
theorem w_row_3 {B : tw → Nat × Nat × (Nat → Nat)} {e : am_V} {I : Nat → Nat → Int32} {L : Nat → Nat → Int64} {t : tw} {m : Nat} {v2 v3 : Int32} {Q : Int32 → Int32 → (Nat → Nat → Int32) → (Nat → Nat → Int64) → Prop} (hR : Rel B e t I L m) (hQ : ∀ r J M, Rel B e t J M m → Q r r J M) : C_X10_row_0 e (nI 3) v2 v3 I L (fun r J M => C_X11_row_73 e (nI 3) v2 v3 J M (fun r' K N => Q r r' K N)) := by
  have f1 : Rel B e t (va_up I 73 (va_up (I 73) 0 (nI 0))) L m := Rel_q hR (fr_73 (fr_refl _ _ _) rfl) (frL_r L) (Nat.le_refl _)
  have gx : (3 ≤ 3) = True := eq_true (by decide)
  have hS := hR.2.2.2.2.1
  rcases crl v2 3 (by decide) with g | ⟨g, d⟩ | ⟨w, hw, rfl⟩
  · refine b_X10_row_0_c3 ?_
    simp (disch := omega) only [pk_mul, nI_add, ksub, kdv, kd8, kd64, kd2, kd3, km8, km64, kt8, ke8, ke64, kcl, kin, kle, klt, keq, up_s, up_n, up_u, true_and, and_true, false_implies, true_implies, not_false_eq_true, not_true_eq_false, g]
    refine b_X11_row_73 ?_
    simp (disch := omega) only [pk_mul, nI_add, ksub, kdv, kd8, kd64, kd2, kd3, km8, km64, kt8, ke8, ke64, kcl, kin, kle, klt, keq, up_s, up_n, up_u, true_and, and_true, false_implies, true_implies, not_false_eq_true, not_true_eq_false, kzl, kl3, knl, gx, g]
    exact hQ _ _ _ f1
  · have d4 : nI 4 ≤ v2 := by
      rw [Int32.le_iff_toInt_le] at d ⊢
      have h5 : (nI 3).toInt = 3 := rfl
      have h6 : (nI 4).toInt = 4 := rfl
      omega
    refine b_X10_row_0_c3 ?_
    simp (disch := omega) only [pk_mul, nI_add, ksub, kdv, kd8, kd64, kd2, kd3, km8, km64, kt8, ke8, ke64, kcl, kin, kle, klt, keq, up_s, up_n, up_u, true_and, and_true, false_implies, true_implies, not_false_eq_true, not_true_eq_false, g, d4]
    refine b_X11_row_73 ?_
    simp (disch := omega) only [pk_mul, nI_add, ksub, kdv, kd8, kd64, kd2, kd3, km8, km64, kt8, ke8, ke64, kcl, kin, kle, klt, keq, up_s, up_n, up_u, true_and, and_true, false_implies, true_implies, not_false_eq_true, not_true_eq_false, kzl, kl3, knl, gx, g, d]
    exact hQ _ _ _ f1
  · have gw : (w ≤ 3) = True := eq_true hw
    have gw2 : (4 ≤ w) = False := eq_false (by omega)
    by_cases h60 : v3 ≤ nI 60
    · by_cases h0 : nI 0 ≤ v3
      · have h0' : ¬ v3 < nI 0 := fun h => by
          rw [Int32.lt_iff_toInt_lt] at h
          rw [Int32.le_iff_toInt_le] at h0
          omega
        obtain ⟨c, hc, rfl⟩ := nI_of h0'
        rw [nI_leI hc (by decide)] at h60
        have gc : (c ≤ 60) = True := eq_true h60
        have gc0 : (0 ≤ c) = True := eq_true (Nat.zero_le _)
        refine b_X10_row_0_c3 ?_
        simp (disch := omega) only [pk_mul, nI_add, ksub, kdv, kd8, kd64, kd2, kd3, km8, km64, kt8, ke8, ke64, kcl, kin, kle, klt, keq, up_s, up_n, up_u, true_and, and_true, false_implies, true_implies, not_false_eq_true, not_true_eq_false, knl, gw2, gc, gc0]
        refine c_fill_36 (fun F hF => ?_)
        refine b_X11_row_73 ?_
        simp (disch := omega) only [pk_mul, nI_add, ksub, kdv, kd8, kd64, kd2, kd3, km8, km64, kt8, ke8, ke64, kcl, kin, kle, klt, keq, up_s, up_n, up_u, true_and, and_true, false_implies, true_implies, not_false_eq_true, not_true_eq_false, kzl, kl3, knl, gx, gw, gc, gc0]
        have e0 : va_up L 36 F = va_up (va_up L 36 F) 76 (L 76) := (up_id (va_up L 36 F) 76).symm
        rw [e0]
        refine lp_up (n := c) (S := Nat → Int64) (T := fun i G => T_X11_row_73_p57 e (nI 3) (nI c) (nI i) _ (va_up (va_up L 36 F) 76 G) _) (fun i G => (∀ k, k < i → G (60 * 3 + k) = (0 : Int64)) ∧ ∀ s, s < 4 → s ≠ 3 → ∀ k, k < 60 → G (60 * s + k) = L 76 (60 * s + k)) ?_ ?_ 0 _ (Nat.zero_le _) ⟨fun k hk => absurd hk (Nat.not_lt_zero k), fun _ _ _ _ _ => rfl⟩
        · rintro i G hi ⟨h1, h2⟩ hnext
          have q1 : (c ≤ i) = False := eq_false (by omega)
          refine b_X11_row_73_p57 ?_
          simp (disch := omega) only [pk_mul, nI_add, ksub, kdv, kd8, kd64, kd2, kd3, km8, km64, kt8, ke8, ke64, kcl, kin, kle, klt, keq, up_s, up_n, up_u, true_and, and_true, false_implies, true_implies, not_false_eq_true, not_true_eq_false, q1]
          refine hnext _ ⟨fun k hk => ?_, fun s h3 h4 k hk => ?_⟩
          · by_cases he : k = i
            · rw [he]
              simp (disch := omega) only [pk_mul, nI_add, ksub, kdv, kd8, kd64, kd2, kd3, km8, km64, kt8, ke8, ke64, kcl, kin, kle, klt, keq, up_s, up_n, up_u, true_and, and_true, false_implies, true_implies, not_false_eq_true, not_true_eq_false]
            · simp (disch := omega) only [pk_mul, nI_add, ksub, kdv, kd8, kd64, kd2, kd3, km8, km64, kt8, ke8, ke64, kcl, kin, kle, klt, keq, up_s, up_n, up_u, true_and, and_true, false_implies, true_implies, not_false_eq_true, not_true_eq_false]
              exact h1 k (by omega)
          · simp (disch := omega) only [pk_mul, nI_add, ksub, kdv, kd8, kd64, kd2, kd3, km8, km64, kt8, ke8, ke64, kcl, kin, kle, klt, keq, up_s, up_n, up_u, true_and, and_true, false_implies, true_implies, not_false_eq_true, not_true_eq_false]
            exact h2 s h3 h4 k hk
        · rintro G ⟨h1, h2⟩
          have q1 : (c ≤ c) = True := eq_true (Nat.le_refl _)
          refine b_X11_row_73_p57 ?_
          simp (disch := omega) only [pk_mul, nI_add, ksub, kdv, kd8, kd64, kd2, kd3, km8, km64, kt8, ke8, ke64, kcl, kin, kle, klt, keq, up_s, up_n, up_u, true_and, and_true, false_implies, true_implies, not_false_eq_true, not_true_eq_false, q1]
          refine hQ _ _ _ (Rel_s hR (fun a a1 a2 a3 a4 a5 a6 a7 => ?_) (fun k hk => ?_) (SL_r (x := 3) (w := w) (c := c) hS (by omega) h60 ?_ ?_ ?_ ?_ ?_ (fun s hs hn => ?_) (fun k hn => ?_) (fun k hn => ?_) (fun k hk => ?_) (fun s hs hn => ?_) (fun s hs hn k hk => ?_)))
          · simp (disch := omega) only [pk_mul, nI_add, ksub, kdv, kd8, kd64, kd2, kd3, km8, km64, kt8, ke8, ke64, kcl, kin, kle, klt, keq, up_s, up_n, up_u, true_and, and_true, false_implies, true_implies, not_false_eq_true, not_true_eq_false]
          · simp (disch := omega) only [pk_mul, nI_add, ksub, kdv, kd8, kd64, kd2, kd3, km8, km64, kt8, ke8, ke64, kcl, kin, kle, klt, keq, up_s, up_n, up_u, true_and, and_true, false_implies, true_implies, not_false_eq_true, not_true_eq_false]
          · simp (disch := omega) only [pk_mul, nI_add, ksub, kdv, kd8, kd64, kd2, kd3, km8, km64, kt8, ke8, ke64, kcl, kin, kle, klt, keq, up_s, up_n, up_u, true_and, and_true, false_implies, true_implies, not_false_eq_true, not_true_eq_false]
          · simp (disch := omega) only [pk_mul, nI_add, ksub, kdv, kd8, kd64, kd2, kd3, km8, km64, kt8, ke8, ke64, kcl, kin, kle, klt, keq, up_s, up_n, up_u, true_and, and_true, false_implies, true_implies, not_false_eq_true, not_true_eq_false]
          · simp (disch := omega) only [pk_mul, nI_add, ksub, kdv, kd8, kd64, kd2, kd3, km8, km64, kt8, ke8, ke64, kcl, kin, kle, klt, keq, up_s, up_n, up_u, true_and, and_true, false_implies, true_implies, not_false_eq_true, not_true_eq_false]
          · simp (disch := omega) only [pk_mul, nI_add, ksub, kdv, kd8, kd64, kd2, kd3, km8, km64, kt8, ke8, ke64, kcl, kin, kle, klt, keq, up_s, up_n, up_u, true_and, and_true, false_implies, true_implies, not_false_eq_true, not_true_eq_false]
          · simp (disch := omega) only [pk_mul, nI_add, ksub, kdv, kd8, kd64, kd2, kd3, km8, km64, kt8, ke8, ke64, kcl, kin, kle, klt, keq, up_s, up_n, up_u, true_and, and_true, false_implies, true_implies, not_false_eq_true, not_true_eq_false]
          · simp (disch := omega) only [pk_mul, nI_add, ksub, kdv, kd8, kd64, kd2, kd3, km8, km64, kt8, ke8, ke64, kcl, kin, kle, klt, keq, up_s, up_n, up_u, true_and, and_true, false_implies, true_implies, not_false_eq_true, not_true_eq_false]
          · simp (disch := omega) only [pk_mul, nI_add, ksub, kdv, kd8, kd64, kd2, kd3, km8, km64, kt8, ke8, ke64, kcl, kin, kle, klt, keq, up_s, up_n, up_u, true_and, and_true, false_implies, true_implies, not_false_eq_true, not_true_eq_false]
          · simp (disch := omega) only [pk_mul, nI_add, ksub, kdv, kd8, kd64, kd2, kd3, km8, km64, kt8, ke8, ke64, kcl, kin, kle, klt, keq, up_s, up_n, up_u, true_and, and_true, false_implies, true_implies, not_false_eq_true, not_true_eq_false]
          · have t1 : va_up (va_up L 36 F) 76 G (30 + 2 * 3) = F := rfl
            rw [t1, up_s, h1 k hk]
            exact hF k (by omega)
          · simp (disch := omega) only [pk_mul, nI_add, ksub, kdv, kd8, kd64, kd2, kd3, km8, km64, kt8, ke8, ke64, kcl, kin, kle, klt, keq, up_s, up_n, up_u, true_and, and_true, false_implies, true_implies, not_false_eq_true, not_true_eq_false]
          · rw [up_s]
            exact h2 s hs hn k hk
      · refine b_X10_row_0_c3 ?_
        simp (disch := omega) only [pk_mul, nI_add, ksub, kdv, kd8, kd64, kd2, kd3, km8, km64, kt8, ke8, ke64, kcl, kin, kle, klt, keq, up_s, up_n, up_u, true_and, and_true, false_implies, true_implies, not_false_eq_true, not_true_eq_false, knl, gw2, h60, h0]
        refine b_X11_row_73 ?_
        simp (disch := omega) only [pk_mul, nI_add, ksub, kdv, kd8, kd64, kd2, kd3, km8, km64, kt8, ke8, ke64, kcl, kin, kle, klt, keq, up_s, up_n, up_u, true_and, and_true, false_implies, true_implies, not_false_eq_true, not_true_eq_false, kzl, kl3, knl, gx, gw, h60, h0]
        exact hQ _ _ _ f1
    · refine b_X10_row_0_c3 ?_
      simp (disch := omega) only [pk_mul, nI_add, ksub, kdv, kd8, kd64, kd2, kd3, km8, km64, kt8, ke8, ke64, kcl, kin, kle, klt, keq, up_s, up_n, up_u, true_and, and_true, false_implies, true_implies, not_false_eq_true, not_true_eq_false, knl, gw2, h60]
      refine b_X11_row_73 ?_
      simp (disch := omega) only [pk_mul, nI_add, ksub, kdv, kd8, kd64, kd2, kd3, km8, km64, kt8, ke8, ke64, kcl, kin, kle, klt, keq, up_s, up_n, up_u, true_and, and_true, false_implies, true_implies, not_false_eq_true, not_true_eq_false, kzl, kl3, knl, gx, gw, h60]
      exact hQ _ _ _ f1
theorem r_row {B : tw → Nat × Nat × (Nat → Nat)} {e : am_V} {I : Nat → Nat → Int32} {L : Nat → Nat → Int64} {t : tw} {m : Nat} {v1 v2 v3 : Int32} {Q : Int32 → Int32 → (Nat → Nat → Int32) → (Nat → Nat → Int64) → Prop} (hR : Rel B e t I L m) (hQ : ∀ r J M, Rel B e t J M m → Q r r J M) : C_X10_row_0 e v1 v2 v3 I L (fun r J M => C_X11_row_73 e v1 v2 v3 J M (fun r' K N => Q r r' K N)) := by
  have f1 : Rel B e t (va_up I 73 (va_up (I 73) 0 (nI 0))) L m := Rel_q hR (fr_73 (fr_refl _ _ _) rfl) (frL_r L) (Nat.le_refl _)
  rcases crl v1 3 (by decide) with ax | ⟨ax, dx⟩ | ⟨x, hx, rfl⟩
  · (refine b_X10_row_0 ?_; simp (disch := omega) only [pk_mul, nI_add, ksub, kdv, kd8, kd64, kd2, kd3, km8, km64, kt8, ke8, ke64, kcl, kin, kle, klt, keq, up_s, up_n, up_u, true_and, and_true, false_implies, true_implies, not_false_eq_true, not_true_eq_false, ax]; refine b_X11_row_73 ?_; simp (disch := omega) only [pk_mul, nI_add, ksub, kdv, kd8, kd64, kd2, kd3, km8, km64, kt8, ke8, ke64, kcl, kin, kle, klt, keq, up_s, up_n, up_u, true_and, and_true, false_implies, true_implies, not_false_eq_true, not_true_eq_false, kzl, ax]; exact hQ _ _ _ f1)
  · have d4 : nI 4 ≤ v1 := by
      rw [Int32.le_iff_toInt_le] at dx ⊢
      have h5 : (nI 3).toInt = 3 := rfl
      have h6 : (nI 4).toInt = 4 := rfl
      omega
    (refine b_X10_row_0 ?_; simp (disch := omega) only [pk_mul, nI_add, ksub, kdv, kd8, kd64, kd2, kd3, km8, km64, kt8, ke8, ke64, kcl, kin, kle, klt, keq, up_s, up_n, up_u, true_and, and_true, false_implies, true_implies, not_false_eq_true, not_true_eq_false, ax, d4]; refine b_X11_row_73 ?_; simp (disch := omega) only [pk_mul, nI_add, ksub, kdv, kd8, kd64, kd2, kd3, km8, km64, kt8, ke8, ke64, kcl, kin, kle, klt, keq, up_s, up_n, up_u, true_and, and_true, false_implies, true_implies, not_false_eq_true, not_true_eq_false, kzl, kl3, ax, dx]; exact hQ _ _ _ f1)
  · have : x = 0 ∨ x = 1 ∨ x = 2 ∨ x = 3 := by omega
    rcases this with rfl | rfl | rfl | rfl
    · exact w_row_0 hR hQ
    · exact w_row_1 hR hQ
    · exact w_row_2 hR hQ
    · exact w_row_3 hR hQ
