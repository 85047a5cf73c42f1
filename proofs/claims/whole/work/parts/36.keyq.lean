/-! key, loss; beside, corner, errand, led, bare -/
theorem cpy0 {f g : Nat → Int32} {n j : Nat} (h : j < n) : va_cpy f g 0 0 n j = f j := by
  rw [pk_cpy_in (Nat.zero_le _) (by omega)]
  rw [Nat.sub_zero, Nat.zero_add]
theorem up_le {f : Nat → Nat} {k B : Nat} (hf : ∀ j, j < 512 → f j ≤ B) : ∀ j, j < 512 → va_up f k 0 j ≤ B := by
  intro j hj
  by_cases he : j = k
  · rw [he, up_s]; exact Nat.zero_le _
  · rw [up_n he]; exact hf j hj
noncomputable def kyA (t : tw) : Nat → Nat × Int32 := acc (fun k p => if 0 < t 3 k ∧ p.1 < shS t (va_up (t 3) k 0) then (shS t (va_up (t 3) k 0), nI (100 * (k / 64) + 10 * (k / 8 % 8) + k % 8)) else p) (shS t (t 3), (-1 : Int32))
theorem kyA_s (t : tw) (k : Nat) : kyA t (k + 1) = if 0 < t 3 k ∧ (kyA t k).1 < shS t (va_up (t 3) k 0) then (shS t (va_up (t 3) k 0), nI (100 * (k / 64) + 10 * (k / 8 % 8) + k % 8)) else kyA t k := rfl
theorem kyA_b {t : tw} (hk : tok t) (k : Nat) : shS t (t 3) ≤ (kyA t k).1 ∧ (kyA t k).1 ≤ 64 := by
  induction k with
  | zero => exact ⟨Nat.le_refl _, shS_b hk⟩
  | succ k ih =>
    rw [kyA_s]
    split
    · rename_i h
      exact ⟨by show shS t (t 3) ≤ shS t (va_up (t 3) k 0); omega, shS_b hk⟩
    · exact ih
theorem q_key {e : am_V} {I : Nat → Nat → Int32} {L : Nat → Nat → Int64} {t : tw} {Q : Int32 → Int32 → (Nat → Nat → Int32) → Prop} (hC : CT t I) (hM : MT t I) (hk : tok t) (hQ : ∀ r J, fr SC FC I J → Q r r J) : C_X10_key_0 e I L (fun r J => C_X11_key_73 e J L (fun r' K => Q r r' K)) := by
  have hC2 := hC
  have hM2 := hM
  have hk2 := hk
  obtain ⟨c0, c1, c2, c3, c4, c5, c6, c7, c8, cS, cD, cN, cA, cT, cM, cR, cF, cO, cH, cL⟩ := hC
  obtain ⟨m0, m1, m2, m3, m4, m5, mS, mU, mL, mF, mO, mH, mA, mK⟩ := hM
  obtain ⟨o0, oT, oZ, oY, oD, o9, oN, o28, oB, oX, oE, oF, oA, oH, oU, oV⟩ := hk
  have f0 : fr SC FC I (va_up I 73 (va_up (I 73) 0 (nI 0))) := fr_73 (fr_refl _ _ _) rfl
  by_cases h0 : t 0 0 ≤ 0
  · have g0 := eq_true h0
    have g1 : (t 0 3 ≤ 0) = True := eq_true (by omega)
    refine b_X10_key_0 ?_
    simp (disch := omega) only [pk_mul, nI_add, ksub, kdv, kd8, kd64, kd2, kd3, km8, km64, kt8, ke8, ke64, kcl, kin, kle, klt, keq, up_s, up_n, up_u, true_and, and_true, false_implies, true_implies, not_false_eq_true, not_true_eq_false, c0, g0]
    refine b_X11_key_73 ?_
    simp (disch := omega) only [pk_mul, nI_add, ksub, kdv, kd8, kd64, kd2, kd3, km8, km64, kt8, ke8, ke64, kcl, kin, kle, klt, keq, up_s, up_n, up_u, true_and, and_true, false_implies, true_implies, not_false_eq_true, not_true_eq_false, m0, g1]
    exact hQ _ _ f0
  · have g0 := eq_false h0
    have g1 : (t 0 3 ≤ 0) = False := eq_false (by omega)
    have hlt : (tu t).length ≤ 512 := by rw [cn_fl]; exact cn_n _ _
    refine b_X10_key_0 ?_
    simp (disch := omega) only [pk_mul, nI_add, ksub, kdv, kd8, kd64, kd2, kd3, km8, km64, kt8, ke8, ke64, kcl, kin, kle, klt, keq, up_s, up_n, up_u, true_and, and_true, false_implies, true_implies, not_false_eq_true, not_true_eq_false, c0, g0]
    refine c_shut_10 hC2 hk2 cR (tok_nw hk2) (fun J fJ => ?_)
    refine lp_fl (l := tu t) rfl (N := 512) (p := tB t) (S := (Nat × Int32) × (Nat → Nat → Int32)) (T := fun i s => T_X10_key_0_p36 e (nI s.1.1) s.1.2 (nI i) s.2 L _) (fun k s => s.1 = kyA t k ∧ fr [2, 41, 42] [] I s.2) ?_ ?_ ?_ ((shS t (t 3), (-1 : Int32)), J) ⟨rfl, fr_mono fJ rfl rfl⟩
    · rintro k ⟨p, J⟩ hk5 hp ⟨i1, i2⟩
      dsimp only at i1 i2
      refine ⟨?_, i2⟩
      show p = kyA t (k + 1)
      rw [kyA_s, if_neg (by have := oX k hk5 hp; omega)]
      exact i1
    · rintro k i ⟨p, J⟩ hk5 hp hi hik ⟨i1, i2⟩ hnext
      dsimp only at i1 i2
      subst i1
      obtain ⟨b1, b2⟩ := kyA_b hk2 k
      have CJ := fr_CT i2 hC2 rfl
      have j6 := CJ.2.2.2.2.2.2.1
      have j8 := CJ.2.2.2.2.2.2.2.2.2.2.2.2.2.1 i hi
      rw [hik] at j8
      have jR := CJ.2.2.2.2.2.2.2.2.2.2.2.2.2.2.2.1
      have q2 : ((tu t).length ≤ i) = False := eq_false (by omega)
      have hsb := shS_b (nw := va_up (t 3) k 0) hk2
      refine b_X10_key_0_p36 ?_
      simp (disch := omega) only [pk_mul, nI_add, ksub, kdv, kd8, kd64, kd2, kd3, km8, km64, kt8, ke8, ke64, kcl, kin, kle, klt, keq, up_s, up_n, up_u, true_and, and_true, false_implies, true_implies, not_false_eq_true, not_true_eq_false, j6, q2, j8]
      have fJ2 : fr [2, 41, 42] [] I (va_up J 2 (va_up (va_cpy (J 10) (J 2) 0 0 512) k (nI 0))) := fr_up i2 rfl
      refine c_shut_2 (nw := va_up (t 3) k 0) (fr_CT fJ2 hC2 rfl) hk2 (fun k' hk' hp' => ?_) (up_le (tok_nw hk2)) (fun K fK => ?_)
      · show va_up (va_cpy (J 10) (J 2) 0 0 512) k (nI 0) k' = _
        by_cases he : k' = k
        · rw [he, up_s, up_s]
        · rw [up_n he, up_n he, cpy0 hk']; exact jR k' hk' hp'
      · have fK2 := fr_trans fJ2 (fr_mono fK rfl rfl)
        have CK := fr_CT fK2 hC2 rfl
        have k8 := CK.2.2.2.2.2.2.2.2.2.2.2.2.2.1 i hi
        rw [hik] at k8
        rw [kle (by omega) (by omega)]
        simp (disch := omega) only [pk_mul, nI_add, ksub, kdv, kd8, kd64, kd2, kd3, km8, km64, kt8, ke8, ke64, kcl, kin, kle, klt, keq, up_s, up_n, up_u, true_and, and_true, false_implies, true_implies, not_false_eq_true, not_true_eq_false, k8]
        refine ⟨fun hl => hnext (kyA t k, K) ⟨?_, fK2⟩, fun hl => hnext ((shS t (va_up (t 3) k 0), nI (100 * (k / 64) + 10 * (k / 8 % 8) + k % 8)), K) ⟨?_, fK2⟩⟩
        · show kyA t k = kyA t (k + 1)
          rw [kyA_s, if_neg (by omega)]
        · show _ = kyA t (k + 1)
          have hz2 : 0 < t 3 k := by
            by_cases hz : 0 < t 3 k
            · exact hz
            · have hz0 : t 3 k = 0 := by omega
              have : va_up (t 3) k 0 = t 3 := by
                have h9 := up_id (t 3) k
                rw [hz0] at h9
                exact h9
              rw [this] at hl
              omega
          rw [kyA_s, if_pos ⟨hz2, by omega⟩]
    · rintro ⟨p, J⟩ ⟨i1, i2⟩
      dsimp only at i1 i2
      subst i1
      have CJ := fr_CT i2 hC2 rfl
      have j6 := CJ.2.2.2.2.2.2.1
      have q2 : ((tu t).length ≤ (tu t).length) = True := eq_true (Nat.le_refl _)
      refine b_X10_key_0_p36 ?_
      simp (disch := omega) only [pk_mul, nI_add, ksub, kdv, kd8, kd64, kd2, kd3, km8, km64, kt8, ke8, ke64, kcl, kin, kle, klt, keq, up_s, up_n, up_u, true_and, and_true, false_implies, true_implies, not_false_eq_true, not_true_eq_false, j6, q2]
      have MJ := fr_MT i2 hM2 rfl
      have m0J := MJ.1
      refine b_X11_key_73 ?_
      simp (disch := omega) only [pk_mul, nI_add, ksub, kdv, kd8, kd64, kd2, kd3, km8, km64, kt8, ke8, ke64, kcl, kin, kle, klt, keq, up_s, up_n, up_u, true_and, and_true, false_implies, true_implies, not_false_eq_true, not_true_eq_false, m0J, g1]
      refine c_asLeft (lf := t 3) MJ.2.2.2.2.2.2.2.2.1 (fun F hF => ?_)
      refine c_shutNow (MT_mwQ (MT_0 MJ) hk2 hF (tok_nw hk2)) hk2 (fun K fK => ?_)
      have fK1 : fr [87, 88, 89] [27, 28] (va_up J 73 (va_up (J 73) 0 (nI 0))) K := fr_trans (fr_up (fr_refl _ _ _) rfl) (fr_mono fK rfl rfl)
      refine lp_up (n := 512) (S := (Nat × Int32) × (Nat → Nat → Int32)) (T := fun i s => T_X11_key_73_p28 e (nI s.1.1) s.1.2 (nI i) s.2 L _) (fun k s => s.1 = kyA t k ∧ fr [87, 88, 89] [27, 28] (va_up J 73 (va_up (J 73) 0 (nI 0))) s.2) ?_ ?_ 0 ((shS t (t 3), (-1 : Int32)), K) (Nat.zero_le _) ⟨rfl, fK1⟩
      · rintro k ⟨p, K⟩ hk5 ⟨i1, i2⟩ hnext
        dsimp only at i1 i2
        subst i1
        obtain ⟨b1, b2⟩ := kyA_b hk2 k
        have MK := fr_MT i2 (MT_0 MJ) rfl
        have mL := MK.2.2.2.2.2.2.2.2.1
        have e83 := mL k hk5
        have q3 : (512 ≤ k) = False := eq_false (by omega)
        have hB := oB k hk5
        refine b_X11_key_73_p28 ?_
        simp (disch := omega) only [pk_mul, nI_add, ksub, kdv, kd8, kd64, kd2, kd3, km8, km64, kt8, ke8, ke64, kcl, kin, kle, klt, keq, up_s, up_n, up_u, true_and, and_true, false_implies, true_implies, not_false_eq_true, not_true_eq_false, q3, e83]
        refine ⟨fun hz => hnext (kyA t k, K) ⟨?_, i2⟩, fun hz => c_asLeft (lf := t 3) mL (fun F hF => ?_)⟩
        · show kyA t k = kyA t (k + 1)
          rw [kyA_s, if_neg (by omega)]
        · have hF2 : ∀ j, j < 512 → va_up F k (nI 0) j = nI (va_up (t 3) k 0 j) := by
            intro j hj
            by_cases he : j = k
            · rw [he, up_s, up_s]
            · rw [up_n he, up_n he]; exact hF j hj
          have hsb := shS_b (nw := va_up (t 3) k 0) hk2
          simp (disch := omega) only [pk_mul, nI_add, ksub, kdv, kd8, kd64, kd2, kd3, km8, km64, kt8, ke8, ke64, kcl, kin, kle, klt, keq, up_s, up_n, up_u, true_and, and_true, false_implies, true_implies, not_false_eq_true, not_true_eq_false]
          refine c_shutNow (MT_mwQ MK hk2 hF2 (up_le (tok_nw hk2))) hk2 (fun K2 fK2 => ?_)
          have fK3 : fr [87, 88, 89] [27, 28] (va_up J 73 (va_up (J 73) 0 (nI 0))) K2 := fr_trans i2 (fr_trans (fr_up (fr_refl _ _ _) rfl) (fr_mono fK2 rfl rfl))
          rw [klt (by omega) (by omega)]
          refine ⟨fun hl => hnext ((shS t (va_up (t 3) k 0), nI (100 * (k / 64) + 10 * (k / 8 % 8) + k % 8)), K2) ⟨?_, fK3⟩, fun hl => hnext (kyA t k, K2) ⟨?_, fK3⟩⟩
          · show _ = kyA t (k + 1)
            rw [kyA_s, if_pos ⟨by omega, hl⟩]
          · show kyA t k = kyA t (k + 1)
            rw [kyA_s, if_neg (by omega)]
      · rintro ⟨p, K⟩ ⟨i1, i3⟩
        dsimp only at i1 i3
        subst i1
        have q3 : (512 ≤ 512) = True := eq_true (Nat.le_refl _)
        refine b_X11_key_73_p28 ?_
        simp (disch := omega) only [pk_mul, nI_add, ksub, kdv, kd8, kd64, kd2, kd3, km8, km64, kt8, ke8, ke64, kcl, kin, kle, klt, keq, up_s, up_n, up_u, true_and, and_true, false_implies, true_implies, not_false_eq_true, not_true_eq_false, q3]
        exact hQ _ _ (fr_q1 i2 i3 rfl rfl rfl rfl)
-- GENERATED
theorem q_loss {e : am_V} {I : Nat → Nat → Int32} {L : Nat → Nat → Int64} {t : tw} {Q : Int32 → Int32 → (Nat → Nat → Int32) → Prop} {v1 : Int32} {v2 : Int32} {v3 : Int32} (hC : CT t I) (hM : MT t I) (hk : tok t) (hQ : ∀ r J, fr SC FC I J → Q r r J) : C_X10_loss_0 e v1 v2 v3 I L (fun r J => C_X11_loss_73 e v1 v2 v3 J L (fun r' K => Q r r' K)) := by
  have hC2 := hC
  have hM2 := hM
  have hk2 := hk
  obtain ⟨c0, c1, c2, c3, c4, c5, c6, c7, c8, cS, cD, cN, cA, cT, cM, cR, cF, cO, cH, cL⟩ := hC
  obtain ⟨m0, m1, m2, m3, m4, m5, mS, mU, mL, mF, mO, mH, mA, mK⟩ := hM
  obtain ⟨o0, oT, oZ, oY, oD, o9, oN, o28, oB, oX, oE, oF, oA, oH, oU, oV⟩ := hk
  have f0 : fr SC FC I (va_up I 73 (va_up (I 73) 0 (nI 0))) := fr_73 (fr_refl _ _ _) rfl
  rcases crs v1 (t 0 0) (by omega) with ax | ⟨ax, dx⟩ | ⟨x, hx, rfl⟩
  · (refine b_X10_loss_0 ?_; simp (disch := omega) only [pk_mul, nI_add, ksub, kdv, kd8, kd64, kd2, kd3, km8, km64, kt8, ke8, ke64, kcl, kin, kle, klt, keq, up_s, up_n, up_u, true_and, and_true, false_implies, true_implies, not_false_eq_true, not_true_eq_false, ax, c0, knl]; refine b_X11_loss_73 ?_; simp (disch := omega) only [pk_mul, nI_add, ksub, kdv, kd8, kd64, kd2, kd3, km8, km64, kt8, ke8, ke64, kcl, kin, kle, klt, keq, up_s, up_n, up_u, true_and, and_true, false_implies, true_implies, not_false_eq_true, not_true_eq_false, ax, m1, kzl, kcz, knl]; exact hQ _ _ f0)
  · (refine b_X10_loss_0 ?_; simp (disch := omega) only [pk_mul, nI_add, ksub, kdv, kd8, kd64, kd2, kd3, km8, km64, kt8, ke8, ke64, kcl, kin, kle, klt, keq, up_s, up_n, up_u, true_and, and_true, false_implies, true_implies, not_false_eq_true, not_true_eq_false, ax, dx, c0, knl]; refine b_X11_loss_73 ?_; simp (disch := omega) only [pk_mul, nI_add, ksub, kdv, kd8, kd64, kd2, kd3, km8, km64, kt8, ke8, ke64, kcl, kin, kle, klt, keq, up_s, up_n, up_u, true_and, and_true, false_implies, true_implies, not_false_eq_true, not_true_eq_false, ax, dx, m1, kzl, kcz, knl]; exact hQ _ _ f0)
  · have gx : (t 0 0 ≤ x) = False := eq_false (by omega)
    rcases crs v2 (t 0 0) (by omega) with ay | ⟨ay, dy⟩ | ⟨y, hy, rfl⟩
    · (refine b_X10_loss_0 ?_; simp (disch := omega) only [pk_mul, nI_add, ksub, kdv, kd8, kd64, kd2, kd3, km8, km64, kt8, ke8, ke64, kcl, kin, kle, klt, keq, up_s, up_n, up_u, true_and, and_true, false_implies, true_implies, not_false_eq_true, not_true_eq_false, gx, ay, c0, knl]; refine b_X11_loss_73 ?_; simp (disch := omega) only [pk_mul, nI_add, ksub, kdv, kd8, kd64, kd2, kd3, km8, km64, kt8, ke8, ke64, kcl, kin, kle, klt, keq, up_s, up_n, up_u, true_and, and_true, false_implies, true_implies, not_false_eq_true, not_true_eq_false, gx, ay, m1, kzl, kcz, knl]; exact hQ _ _ f0)
    · (refine b_X10_loss_0 ?_; simp (disch := omega) only [pk_mul, nI_add, ksub, kdv, kd8, kd64, kd2, kd3, km8, km64, kt8, ke8, ke64, kcl, kin, kle, klt, keq, up_s, up_n, up_u, true_and, and_true, false_implies, true_implies, not_false_eq_true, not_true_eq_false, gx, ay, dy, c0, knl]; refine b_X11_loss_73 ?_; simp (disch := omega) only [pk_mul, nI_add, ksub, kdv, kd8, kd64, kd2, kd3, km8, km64, kt8, ke8, ke64, kcl, kin, kle, klt, keq, up_s, up_n, up_u, true_and, and_true, false_implies, true_implies, not_false_eq_true, not_true_eq_false, gx, ay, dy, m1, kzl, kcz, knl]; exact hQ _ _ f0)
    · have gy : (t 0 0 ≤ y) = False := eq_false (by omega)
      rcases crs v3 (t 0 0) (by omega) with az | ⟨az, dz⟩ | ⟨z, hz, rfl⟩
      · (refine b_X10_loss_0 ?_; simp (disch := omega) only [pk_mul, nI_add, ksub, kdv, kd8, kd64, kd2, kd3, km8, km64, kt8, ke8, ke64, kcl, kin, kle, klt, keq, up_s, up_n, up_u, true_and, and_true, false_implies, true_implies, not_false_eq_true, not_true_eq_false, gx, gy, az, c0, knl]; refine b_X11_loss_73 ?_; simp (disch := omega) only [pk_mul, nI_add, ksub, kdv, kd8, kd64, kd2, kd3, km8, km64, kt8, ke8, ke64, kcl, kin, kle, klt, keq, up_s, up_n, up_u, true_and, and_true, false_implies, true_implies, not_false_eq_true, not_true_eq_false, gx, gy, az, m1, kzl, kcz, knl]; exact hQ _ _ f0)
      · (refine b_X10_loss_0 ?_; simp (disch := omega) only [pk_mul, nI_add, ksub, kdv, kd8, kd64, kd2, kd3, km8, km64, kt8, ke8, ke64, kcl, kin, kle, klt, keq, up_s, up_n, up_u, true_and, and_true, false_implies, true_implies, not_false_eq_true, not_true_eq_false, gx, gy, az, dz, c0, knl]; refine b_X11_loss_73 ?_; simp (disch := omega) only [pk_mul, nI_add, ksub, kdv, kd8, kd64, kd2, kd3, km8, km64, kt8, ke8, ke64, kcl, kin, kle, klt, keq, up_s, up_n, up_u, true_and, and_true, false_implies, true_implies, not_false_eq_true, not_true_eq_false, gx, gy, az, dz, m1, kzl, kcz, knl]; exact hQ _ _ f0)
      · have gz : (t 0 0 ≤ z) = False := eq_false (by omega)
        have e1 := cS (8 * x + y) (by omega)
        have e2 := mS (8 * x + y) (by omega)
        have e3 := cS (8 * y + z) (by omega)
        have e4 := mS (8 * y + z) (by omega)
        have u1 := o9 (8 * x + y) (by omega)
        have u2 := o9 (8 * y + z) (by omega)
        by_cases h1 : t 1 (8 * x + y) ≤ 0
        · have q1 := eq_true h1
          refine b_X10_loss_0 ?_
          simp (disch := omega) only [pk_mul, nI_add, ksub, kdv, kd8, kd64, kd2, kd3, km8, km64, kt8, ke8, ke64, kcl, kin, kle, klt, keq, up_s, up_n, up_u, true_and, and_true, false_implies, true_implies, not_false_eq_true, not_true_eq_false, c0, knl, q1, e1, e3, gx, gy, gz]
          refine b_X11_loss_73 ?_
          simp (disch := omega) only [pk_mul, nI_add, ksub, kdv, kd8, kd64, kd2, kd3, km8, km64, kt8, ke8, ke64, kcl, kin, kle, klt, keq, up_s, up_n, up_u, true_and, and_true, false_implies, true_implies, not_false_eq_true, not_true_eq_false, m1, kzl, kcz, knl, q1, e2, e4, gx, gy, gz]
          exact hQ _ _ f0
        · have q1 := eq_false h1
          by_cases h2 : t 1 (8 * y + z) ≤ 0
          · have q2 := eq_true h2
            refine b_X10_loss_0 ?_
            simp (disch := omega) only [pk_mul, nI_add, ksub, kdv, kd8, kd64, kd2, kd3, km8, km64, kt8, ke8, ke64, kcl, kin, kle, klt, keq, up_s, up_n, up_u, true_and, and_true, false_implies, true_implies, not_false_eq_true, not_true_eq_false, c0, knl, q1, q2, e1, e3, gx, gy, gz]
            refine b_X11_loss_73 ?_
            simp (disch := omega) only [pk_mul, nI_add, ksub, kdv, kd8, kd64, kd2, kd3, km8, km64, kt8, ke8, ke64, kcl, kin, kle, klt, keq, up_s, up_n, up_u, true_and, and_true, false_implies, true_implies, not_false_eq_true, not_true_eq_false, m1, kzl, kcz, knl, q1, q2, e2, e4, gx, gy, gz]
            exact hQ _ _ f0
          · have q2 := eq_false h2
            refine b_X10_loss_0 ?_
            simp (disch := omega) only [pk_mul, nI_add, ksub, kdv, kd8, kd64, kd2, kd3, km8, km64, kt8, ke8, ke64, kcl, kin, kle, klt, keq, up_s, up_n, up_u, true_and, and_true, false_implies, true_implies, not_false_eq_true, not_true_eq_false, c0, knl, q1, q2, e1, e3, gx, gy, gz]
            have fJ2 : fr [2, 41, 42] [] I (va_up I 2 (va_up (va_cpy (I 10) (I 2) 0 0 512) (64 * x + 8 * y + z) (nI 0))) := fr_up (fr_refl _ _ _) rfl
            refine c_shut_2 (nw := va_up (t 3) (64 * x + 8 * y + z) 0) (fr_CT fJ2 hC2 rfl) hk2 (fun k' hk' hp' => ?_) (up_le (tok_nw hk2)) (fun K fK => ?_)
            · show va_up (va_cpy (I 10) (I 2) 0 0 512) (64 * x + 8 * y + z) (nI 0) k' = _
              by_cases he : k' = 64 * x + 8 * y + z
              · rw [he, up_s, up_s]
              · rw [up_n he, up_n he, cpy0 hk']; exact cR k' hk' hp'
            · have fK2 := fr_trans fJ2 (fr_mono fK rfl rfl)
              refine c_shut_10 (nw := t 3) (fr_CT fK2 hC2 rfl) hk2 (fr_CT fK2 hC2 rfl).2.2.2.2.2.2.2.2.2.2.2.2.2.2.2.1 (tok_nw hk2) (fun J fJ => ?_)
              have fJ3 := fr_trans fK2 (fr_mono fJ rfl rfl)
              have MJ := fr_MT fJ3 hM2 rfl
              have m1J := MJ.2.1
              have e2 := MJ.2.2.2.2.2.2.1 (8 * x + y) (by omega)
              have e4 := MJ.2.2.2.2.2.2.1 (8 * y + z) (by omega)
              refine b_X11_loss_73 ?_
              simp (disch := omega) only [pk_mul, nI_add, ksub, kdv, kd8, kd64, kd2, kd3, km8, km64, kt8, ke8, ke64, kcl, kin, kle, klt, keq, up_s, up_n, up_u, true_and, and_true, false_implies, true_implies, not_false_eq_true, not_true_eq_false, m1J, kzl, kcz, knl, q1, q2, e2, e4, gx, gy, gz]
              refine c_asLeft (lf := t 3) MJ.2.2.2.2.2.2.2.2.1 (fun F1 hF1 => ?_)
              refine c_shutNow (MT_mwQ (MT_0 MJ) hk2 hF1 (tok_nw hk2)) hk2 (fun K1 fK1 => ?_)
              have fA : fr [87, 88, 89] [27, 28] (va_up J 73 (va_up (J 73) 0 (nI 0))) K1 := fr_trans (fr_up (fr_refl _ _ _) rfl) (fr_mono fK1 rfl rfl)
              have MK := fr_MT fA (MT_0 MJ) rfl
              refine c_asLeft (lf := t 3) MK.2.2.2.2.2.2.2.2.1 (fun F2 hF2 => ?_)
              have hF3 : ∀ j, j < 512 → va_up F2 (64 * x + 8 * y + z) (nI 0) j = nI (va_up (t 3) (64 * x + 8 * y + z) 0 j) := by
                intro j hj
                by_cases he : j = 64 * x + 8 * y + z
                · rw [he, up_s, up_s]
                · rw [up_n he, up_n he]; exact hF2 j hj
              simp (disch := omega) only [pk_mul, nI_add, ksub, kdv, kd8, kd64, kd2, kd3, km8, km64, kt8, ke8, ke64, kcl, kin, kle, klt, keq, up_s, up_n, up_u, true_and, and_true, false_implies, true_implies, not_false_eq_true, not_true_eq_false]
              refine c_shutNow (MT_mwQ MK hk2 hF3 (up_le (tok_nw hk2))) hk2 (fun K2 fK2 => ?_)
              exact hQ _ _ (fr_q1 fJ3 (fr_trans fA (fr_trans (fr_up (fr_refl _ _ _) rfl) (fr_mono fK2 rfl rfl))) rfl rfl rfl rfl)
theorem w012 (v : Int32) : v < nI 0 ∨ (¬ v < nI 0 ∧ ¬ v ≤ nI 2) ∨ v = nI 0 ∨ v = nI 1 ∨ v = nI 2 := by
  by_cases h : v < nI 0
  · exact Or.inl h
  · by_cases h2 : v ≤ nI 2
    · obtain ⟨j, hj, rfl⟩ := nI_of h
      rw [nI_leI hj (by decide)] at h2
      have : j = 0 ∨ j = 1 ∨ j = 2 := by omega
      rcases this with rfl | rfl | rfl
      · exact Or.inr (Or.inr (Or.inl rfl))
      · exact Or.inr (Or.inr (Or.inr (Or.inl rfl)))
      · exact Or.inr (Or.inr (Or.inr (Or.inr rfl)))
    · exact Or.inr (Or.inl ⟨h, h2⟩)
theorem kl2 {x : Int32} : (2 : Int64) < x.toInt64 ↔ ¬ x ≤ nI 2 := klit 2 (by decide)
theorem kl3 {x : Int32} : (3 : Int64) < x.toInt64 ↔ ¬ x ≤ nI 3 := klit 3 (by decide)
theorem n02 : ((0 : Nat) ≤ 2) = True ∧ ((1 : Nat) ≤ 2) = True ∧ ((2 : Nat) ≤ 2) = True := ⟨eq_true (by decide), eq_true (by decide), eq_true (by decide)⟩
theorem ti0 : ((nI 0).toInt = 0) = True ∧ ((nI 0).toInt = 1) = False ∧ ((nI 0).toInt = 2) = False ∧ ((nI 0).toInt < 0) = False ∧ ((2 : Int) < (nI 0).toInt) = False := ⟨eq_true (by decide), eq_false (by decide), eq_false (by decide), eq_false (by decide), eq_false (by decide)⟩
theorem ti1 : ((nI 1).toInt = 0) = False ∧ ((nI 1).toInt = 1) = True ∧ ((nI 1).toInt = 2) = False ∧ ((nI 1).toInt < 0) = False ∧ ((2 : Int) < (nI 1).toInt) = False := ⟨eq_false (by decide), eq_true (by decide), eq_false (by decide), eq_false (by decide), eq_false (by decide)⟩
theorem ti2 : ((nI 2).toInt = 0) = False ∧ ((nI 2).toInt = 1) = False ∧ ((nI 2).toInt = 2) = True ∧ ((nI 2).toInt < 0) = False ∧ ((2 : Int) < (nI 2).toInt) = False := ⟨eq_false (by decide), eq_false (by decide), eq_true (by decide), eq_false (by decide), eq_false (by decide)⟩
theorem ti3 : ((nI 3).toInt = 0) = False ∧ ((nI 3).toInt = 1) = False ∧ ((nI 3).toInt = 2) = False ∧ ((nI 3).toInt < 0) = False ∧ ((2 : Int) < (nI 3).toInt) = True := ⟨eq_false (by decide), eq_false (by decide), eq_false (by decide), eq_false (by decide), eq_true (by decide)⟩
theorem q_errand {e : am_V} {I : Nat → Nat → Int32} {L : Nat → Nat → Int64} {t : tw} {Q : Int32 → Int32 → (Nat → Nat → Int32) → Prop} {v1 : Int32} {v2 : Int32} (hC : CT t I) (hM : MT t I) (hk : tok t) (hQ : ∀ r J, fr SC FC I J → Q r r J) : C_X10_errand_0 e v1 v2 I L (fun r J => C_X11_errand_73 e v1 v2 J L (fun r' K => Q r r' K)) := by
  have hC2 := hC
  have hM2 := hM
  have hk2 := hk
  obtain ⟨c0, c1, c2, c3, c4, c5, c6, c7, c8, cS, cD, cN, cA, cT, cM, cR, cF, cO, cH, cL⟩ := hC
  obtain ⟨m0, m1, m2, m3, m4, m5, mS, mU, mL, mF, mO, mH, mA, mK⟩ := hM
  obtain ⟨o0, oT, oZ, oY, oD, o9, oN, o28, oB, oX, oE, oF, oA, oH, oU, oV⟩ := hk
  have f0 : fr SC FC I (va_up I 73 (va_up (I 73) 0 (nI 0))) := fr_73 (fr_refl _ _ _) rfl
  rcases crs v1 (t 0 4) (by omega) with ax | ⟨ax, dx⟩ | ⟨x, hx, rfl⟩
  · (refine b_X10_errand_0 ?_; simp (disch := omega) only [pk_mul, nI_add, ksub, kdv, kd8, kd64, kd2, kd3, km8, km64, kt8, ke8, ke64, kcl, kin, kle, klt, keq, up_s, up_n, up_u, true_and, and_true, false_implies, true_implies, not_false_eq_true, not_true_eq_false, ax, c7, knl]; refine b_X11_errand_73 ?_; simp (disch := omega) only [pk_mul, nI_add, ksub, kdv, kd8, kd64, kd2, kd3, km8, km64, kt8, ke8, ke64, kcl, kin, kle, klt, keq, up_s, up_n, up_u, true_and, and_true, false_implies, true_implies, not_false_eq_true, not_true_eq_false, ax, m4, kzl, kcz1, kcz3, knl, kl2, Nat.add_zero]; exact hQ _ _ f0)
  · (refine b_X10_errand_0 ?_; simp (disch := omega) only [pk_mul, nI_add, ksub, kdv, kd8, kd64, kd2, kd3, km8, km64, kt8, ke8, ke64, kcl, kin, kle, klt, keq, up_s, up_n, up_u, true_and, and_true, false_implies, true_implies, not_false_eq_true, not_true_eq_false, ax, dx, c7, knl]; refine b_X11_errand_73 ?_; simp (disch := omega) only [pk_mul, nI_add, ksub, kdv, kd8, kd64, kd2, kd3, km8, km64, kt8, ke8, ke64, kcl, kin, kle, klt, keq, up_s, up_n, up_u, true_and, and_true, false_implies, true_implies, not_false_eq_true, not_true_eq_false, ax, dx, m4, kzl, kcz1, kcz3, knl, kl2, Nat.add_zero]; exact hQ _ _ f0)
  · have gx : (t 0 4 ≤ x) = False := eq_false (by omega)
    rcases w012 v2 with a2 | ⟨a2, d2⟩ | rfl | rfl | rfl
    · (refine b_X10_errand_0 ?_; simp (disch := omega) only [pk_mul, nI_add, ksub, kdv, kd8, kd64, kd2, kd3, km8, km64, kt8, ke8, ke64, kcl, kin, kle, klt, keq, up_s, up_n, up_u, true_and, and_true, false_implies, true_implies, not_false_eq_true, not_true_eq_false, a2, gx, c7, knl]; refine b_X11_errand_73 ?_; simp (disch := omega) only [pk_mul, nI_add, ksub, kdv, kd8, kd64, kd2, kd3, km8, km64, kt8, ke8, ke64, kcl, kin, kle, klt, keq, up_s, up_n, up_u, true_and, and_true, false_implies, true_implies, not_false_eq_true, not_true_eq_false, a2, gx, m4, kzl, kcz1, kcz3, knl, kl2, Nat.add_zero]; exact hQ _ _ f0)
    · (refine b_X10_errand_0 ?_; simp (disch := omega) only [pk_mul, nI_add, ksub, kdv, kd8, kd64, kd2, kd3, km8, km64, kt8, ke8, ke64, kcl, kin, kle, klt, keq, up_s, up_n, up_u, true_and, and_true, false_implies, true_implies, not_false_eq_true, not_true_eq_false, a2, d2, gx, c7, knl]; refine b_X11_errand_73 ?_; simp (disch := omega) only [pk_mul, nI_add, ksub, kdv, kd8, kd64, kd2, kd3, km8, km64, kt8, ke8, ke64, kcl, kin, kle, klt, keq, up_s, up_n, up_u, true_and, and_true, false_implies, true_implies, not_false_eq_true, not_true_eq_false, a2, d2, gx, m4, kzl, kcz1, kcz3, knl, kl2, Nat.add_zero]; exact hQ _ _ f0)
    · have e1 := cF x hx
      have e2 := mF x hx
      refine b_X10_errand_0 ?_
      simp (disch := omega) only [pk_mul, nI_add, ksub, kdv, kd8, kd64, kd2, kd3, km8, km64, kt8, ke8, ke64, kcl, kin, kle, klt, keq, up_s, up_n, up_u, true_and, and_true, false_implies, true_implies, not_false_eq_true, not_true_eq_false, c7, knl, gx, e1, n02, ti0]
      refine b_X11_errand_73 ?_
      simp (disch := omega) only [pk_mul, nI_add, ksub, kdv, kd8, kd64, kd2, kd3, km8, km64, kt8, ke8, ke64, kcl, kin, kle, klt, keq, up_s, up_n, up_u, true_and, and_true, false_implies, true_implies, not_false_eq_true, not_true_eq_false, m4, kzl, kcz1, kcz3, knl, kl2, Nat.add_zero, gx, e2, n02]
      exact hQ _ _ f0
    · have e1 := cO x hx
      have e2 := mO x hx
      refine b_X10_errand_0 ?_
      simp (disch := omega) only [pk_mul, nI_add, ksub, kdv, kd8, kd64, kd2, kd3, km8, km64, kt8, ke8, ke64, kcl, kin, kle, klt, keq, up_s, up_n, up_u, true_and, and_true, false_implies, true_implies, not_false_eq_true, not_true_eq_false, c7, knl, gx, e1, n02, ti1]
      refine b_X11_errand_73 ?_
      simp (disch := omega) only [pk_mul, nI_add, ksub, kdv, kd8, kd64, kd2, kd3, km8, km64, kt8, ke8, ke64, kcl, kin, kle, klt, keq, up_s, up_n, up_u, true_and, and_true, false_implies, true_implies, not_false_eq_true, not_true_eq_false, m4, kzl, kcz1, kcz3, knl, kl2, Nat.add_zero, gx, e2, n02]
      exact hQ _ _ f0
    · have e1 := cH x hx
      have e2 := mH x hx
      refine b_X10_errand_0 ?_
      simp (disch := omega) only [pk_mul, nI_add, ksub, kdv, kd8, kd64, kd2, kd3, km8, km64, kt8, ke8, ke64, kcl, kin, kle, klt, keq, up_s, up_n, up_u, true_and, and_true, false_implies, true_implies, not_false_eq_true, not_true_eq_false, c7, knl, gx, e1, n02, ti2]
      refine b_X11_errand_73 ?_
      simp (disch := omega) only [pk_mul, nI_add, ksub, kdv, kd8, kd64, kd2, kd3, km8, km64, kt8, ke8, ke64, kcl, kin, kle, klt, keq, up_s, up_n, up_u, true_and, and_true, false_implies, true_implies, not_false_eq_true, not_true_eq_false, m4, kzl, kcz1, kcz3, knl, kl2, Nat.add_zero, gx, e2, n02]
      exact hQ _ _ f0
