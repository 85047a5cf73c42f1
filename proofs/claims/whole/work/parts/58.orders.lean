/-! orders tried: what a walk takes of the turns, and gives back -/
theorem c_addm_54 {e : am_V} {I : Nat → Nat → Int32} {L : Nat → Nat → Int64} {Q : (Nat → Nat → Int32) → Prop} {t : tw} {nw R : Nat → Nat} {len m : Nat} {F : Nat → Int32} (hW : ∀ i, i < len → I 54 i = nI (R i)) (hlen : len ≤ 40) (hm : m = len - 2) (hw : wayok (t 1) R m) (hb : ∀ k, k < 512 → nw k ≤ 1000) (hpos : ∀ j, j < m → 0 < nw (wT R j)) (hF : ∀ k, k < 512 → tB t k = true → F k = nI (nw k)) (hQ : ∀ F', (∀ k, k < 512 → tB t k = true → F' k = nI (spd (fun v => v - 1) nw R m k)) → Q (va_up I 52 F')) : C_X10_addToTurns_54_52 e (nI len) (-1 : Int32) (va_up I 52 F) L Q := by
  refine b_X10_addToTurns_54_52 ?_
  refine lp_up (n := m) (S := Nat → Int32) (T := fun j F => T_X10_addToTurns_54_52_p3 e (nI len) (-1 : Int32) (nI (j + 2)) (va_up I 52 F) L Q) (fun j F => ∀ k, k < 512 → tB t k = true → F k = nI (spd (fun v => v - 1) nw R j k)) ?_ ?_ 0 F (Nat.zero_le _) hF
  · intro j F hj hi hnext
    have r0 := hW (j) (by omega)
    have r1 := hW (j + 1) (by omega)
    have r2 := hW (j + 2) (by omega)
    have z0 := hw.1 j
    have z1 := hw.1 (j + 1)
    have z2 := hw.1 (j + 2)
    have hT := wT_t hw hj
    have hT5 := wT_b (j := j) hw
    have hp := hpos j hj
    unfold wT at hp
    have e1 : F (64 * R j + 8 * R (j + 1) + R (j + 2)) = nI (nw (64 * R j + 8 * R (j + 1) + R (j + 2))) := by
      have h5 := hi (wT R j) hT5 hT
      rw [spd_n hw hj] at h5
      exact h5
    have hbb := hb (64 * R j + 8 * R (j + 1) + R (j + 2)) (by omega)
    have q1 : (len ≤ j + 2) = False := eq_false (by omega)
    have q2 : j + 2 - 2 = j := by omega
    have q3 : j + 2 - 1 = j + 1 := by omega
    refine b_X10_addToTurns_54_52_p3 ?_
    simp (disch := omega) only [pk_mul, nI_add, ksub, kdv, kd8, kd64, kd2, kd3, km8, km64, kt8, ke8, ke64, kcl, kin, kle, klt, keq, up_s, up_n, up_u, true_and, and_true, false_implies, true_implies, not_false_eq_true, not_true_eq_false, q1, q2, q3, r0, r1, r2, e1, kp1, kmx]
    refine hnext _ (fun k hk5 hp5 => ?_)
    by_cases he : k = wT R j
    · rw [he, spd_e]
      show va_up F (wT R j) _ (wT R j) = _
      exact up_s
    · rw [spd_o he]
      show va_up F (wT R j) _ k = _
      rw [up_n he]
      exact hi k hk5 hp5
  · intro F hi
    have q1 : (len ≤ m + 2) = True := eq_true (by omega)
    refine b_X10_addToTurns_54_52_p3 ?_
    simp (disch := omega) only [pk_mul, nI_add, ksub, kdv, kd8, kd64, kd2, kd3, km8, km64, kt8, ke8, ke64, kcl, kin, kle, klt, keq, up_s, up_n, up_u, true_and, and_true, false_implies, true_implies, not_false_eq_true, not_true_eq_false, q1]
    exact hQ F hi
theorem c_addp_54 {e : am_V} {I : Nat → Nat → Int32} {L : Nat → Nat → Int64} {Q : (Nat → Nat → Int32) → Prop} {t : tw} {nw R : Nat → Nat} {len m : Nat} {F : Nat → Int32} (hW : ∀ i, i < len → I 54 i = nI (R i)) (hlen : len ≤ 40) (hm : m = len - 2) (hw : wayok (t 1) R m) (hb : ∀ k, k < 512 → nw k ≤ 1000) (hF : ∀ k, k < 512 → tB t k = true → F k = nI (nw k)) (hQ : ∀ F', (∀ k, k < 512 → tB t k = true → F' k = nI (spd (fun v => v + 1) nw R m k)) → Q (va_up I 52 F')) : C_X10_addToTurns_54_52 e (nI len) (nI 1) (va_up I 52 F) L Q := by
  refine b_X10_addToTurns_54_52 ?_
  refine lp_up (n := m) (S := Nat → Int32) (T := fun j F => T_X10_addToTurns_54_52_p3 e (nI len) (nI 1) (nI (j + 2)) (va_up I 52 F) L Q) (fun j F => ∀ k, k < 512 → tB t k = true → F k = nI (spd (fun v => v + 1) nw R j k)) ?_ ?_ 0 F (Nat.zero_le _) hF
  · intro j F hj hi hnext
    have r0 := hW (j) (by omega)
    have r1 := hW (j + 1) (by omega)
    have r2 := hW (j + 2) (by omega)
    have z0 := hw.1 j
    have z1 := hw.1 (j + 1)
    have z2 := hw.1 (j + 2)
    have hT := wT_t hw hj
    have hT5 := wT_b (j := j) hw
    have e1 : F (64 * R j + 8 * R (j + 1) + R (j + 2)) = nI (nw (64 * R j + 8 * R (j + 1) + R (j + 2))) := by
      have h5 := hi (wT R j) hT5 hT
      rw [spd_n hw hj] at h5
      exact h5
    have hbb := hb (64 * R j + 8 * R (j + 1) + R (j + 2)) (by omega)
    have q1 : (len ≤ j + 2) = False := eq_false (by omega)
    have q2 : j + 2 - 2 = j := by omega
    have q3 : j + 2 - 1 = j + 1 := by omega
    refine b_X10_addToTurns_54_52_p3 ?_
    simp (disch := omega) only [pk_mul, nI_add, ksub, kdv, kd8, kd64, kd2, kd3, km8, km64, kt8, ke8, ke64, kcl, kin, kle, klt, keq, up_s, up_n, up_u, true_and, and_true, false_implies, true_implies, not_false_eq_true, not_true_eq_false, q1, q2, q3, r0, r1, r2, e1, kp1, kmx]
    refine hnext _ (fun k hk5 hp5 => ?_)
    by_cases he : k = wT R j
    · rw [he, spd_e]
      show va_up F (wT R j) _ (wT R j) = _
      exact up_s
    · rw [spd_o he]
      show va_up F (wT R j) _ k = _
      rw [up_n he]
      exact hi k hk5 hp5
  · intro F hi
    have q1 : (len ≤ m + 2) = True := eq_true (by omega)
    refine b_X10_addToTurns_54_52_p3 ?_
    simp (disch := omega) only [pk_mul, nI_add, ksub, kdv, kd8, kd64, kd2, kd3, km8, km64, kt8, ke8, ke64, kcl, kin, kle, klt, keq, up_s, up_n, up_u, true_and, and_true, false_implies, true_implies, not_false_eq_true, not_true_eq_false, q1]
    exact hQ F hi
theorem c_addm_55 {e : am_V} {I : Nat → Nat → Int32} {L : Nat → Nat → Int64} {Q : (Nat → Nat → Int32) → Prop} {t : tw} {nw R : Nat → Nat} {len m : Nat} {F : Nat → Int32} (hW : ∀ i, i < len → I 55 i = nI (R i)) (hlen : len ≤ 40) (hm : m = len - 2) (hw : wayok (t 1) R m) (hb : ∀ k, k < 512 → nw k ≤ 1000) (hpos : ∀ j, j < m → 0 < nw (wT R j)) (hF : ∀ k, k < 512 → tB t k = true → F k = nI (nw k)) (hQ : ∀ F', (∀ k, k < 512 → tB t k = true → F' k = nI (spd (fun v => v - 1) nw R m k)) → Q (va_up I 52 F')) : C_X10_addToTurns_55_52 e (nI len) (-1 : Int32) (va_up I 52 F) L Q := by
  refine b_X10_addToTurns_55_52 ?_
  refine lp_up (n := m) (S := Nat → Int32) (T := fun j F => T_X10_addToTurns_55_52_p3 e (nI len) (-1 : Int32) (nI (j + 2)) (va_up I 52 F) L Q) (fun j F => ∀ k, k < 512 → tB t k = true → F k = nI (spd (fun v => v - 1) nw R j k)) ?_ ?_ 0 F (Nat.zero_le _) hF
  · intro j F hj hi hnext
    have r0 := hW (j) (by omega)
    have r1 := hW (j + 1) (by omega)
    have r2 := hW (j + 2) (by omega)
    have z0 := hw.1 j
    have z1 := hw.1 (j + 1)
    have z2 := hw.1 (j + 2)
    have hT := wT_t hw hj
    have hT5 := wT_b (j := j) hw
    have hp := hpos j hj
    unfold wT at hp
    have e1 : F (64 * R j + 8 * R (j + 1) + R (j + 2)) = nI (nw (64 * R j + 8 * R (j + 1) + R (j + 2))) := by
      have h5 := hi (wT R j) hT5 hT
      rw [spd_n hw hj] at h5
      exact h5
    have hbb := hb (64 * R j + 8 * R (j + 1) + R (j + 2)) (by omega)
    have q1 : (len ≤ j + 2) = False := eq_false (by omega)
    have q2 : j + 2 - 2 = j := by omega
    have q3 : j + 2 - 1 = j + 1 := by omega
    refine b_X10_addToTurns_55_52_p3 ?_
    simp (disch := omega) only [pk_mul, nI_add, ksub, kdv, kd8, kd64, kd2, kd3, km8, km64, kt8, ke8, ke64, kcl, kin, kle, klt, keq, up_s, up_n, up_u, true_and, and_true, false_implies, true_implies, not_false_eq_true, not_true_eq_false, q1, q2, q3, r0, r1, r2, e1, kp1, kmx]
    refine hnext _ (fun k hk5 hp5 => ?_)
    by_cases he : k = wT R j
    · rw [he, spd_e]
      show va_up F (wT R j) _ (wT R j) = _
      exact up_s
    · rw [spd_o he]
      show va_up F (wT R j) _ k = _
      rw [up_n he]
      exact hi k hk5 hp5
  · intro F hi
    have q1 : (len ≤ m + 2) = True := eq_true (by omega)
    refine b_X10_addToTurns_55_52_p3 ?_
    simp (disch := omega) only [pk_mul, nI_add, ksub, kdv, kd8, kd64, kd2, kd3, km8, km64, kt8, ke8, ke64, kcl, kin, kle, klt, keq, up_s, up_n, up_u, true_and, and_true, false_implies, true_implies, not_false_eq_true, not_true_eq_false, q1]
    exact hQ F hi
theorem c_addp_55 {e : am_V} {I : Nat → Nat → Int32} {L : Nat → Nat → Int64} {Q : (Nat → Nat → Int32) → Prop} {t : tw} {nw R : Nat → Nat} {len m : Nat} {F : Nat → Int32} (hW : ∀ i, i < len → I 55 i = nI (R i)) (hlen : len ≤ 40) (hm : m = len - 2) (hw : wayok (t 1) R m) (hb : ∀ k, k < 512 → nw k ≤ 1000) (hF : ∀ k, k < 512 → tB t k = true → F k = nI (nw k)) (hQ : ∀ F', (∀ k, k < 512 → tB t k = true → F' k = nI (spd (fun v => v + 1) nw R m k)) → Q (va_up I 52 F')) : C_X10_addToTurns_55_52 e (nI len) (nI 1) (va_up I 52 F) L Q := by
  refine b_X10_addToTurns_55_52 ?_
  refine lp_up (n := m) (S := Nat → Int32) (T := fun j F => T_X10_addToTurns_55_52_p3 e (nI len) (nI 1) (nI (j + 2)) (va_up I 52 F) L Q) (fun j F => ∀ k, k < 512 → tB t k = true → F k = nI (spd (fun v => v + 1) nw R j k)) ?_ ?_ 0 F (Nat.zero_le _) hF
  · intro j F hj hi hnext
    have r0 := hW (j) (by omega)
    have r1 := hW (j + 1) (by omega)
    have r2 := hW (j + 2) (by omega)
    have z0 := hw.1 j
    have z1 := hw.1 (j + 1)
    have z2 := hw.1 (j + 2)
    have hT := wT_t hw hj
    have hT5 := wT_b (j := j) hw
    have e1 : F (64 * R j + 8 * R (j + 1) + R (j + 2)) = nI (nw (64 * R j + 8 * R (j + 1) + R (j + 2))) := by
      have h5 := hi (wT R j) hT5 hT
      rw [spd_n hw hj] at h5
      exact h5
    have hbb := hb (64 * R j + 8 * R (j + 1) + R (j + 2)) (by omega)
    have q1 : (len ≤ j + 2) = False := eq_false (by omega)
    have q2 : j + 2 - 2 = j := by omega
    have q3 : j + 2 - 1 = j + 1 := by omega
    refine b_X10_addToTurns_55_52_p3 ?_
    simp (disch := omega) only [pk_mul, nI_add, ksub, kdv, kd8, kd64, kd2, kd3, km8, km64, kt8, ke8, ke64, kcl, kin, kle, klt, keq, up_s, up_n, up_u, true_and, and_true, false_implies, true_implies, not_false_eq_true, not_true_eq_false, q1, q2, q3, r0, r1, r2, e1, kp1, kmx]
    refine hnext _ (fun k hk5 hp5 => ?_)
    by_cases he : k = wT R j
    · rw [he, spd_e]
      show va_up F (wT R j) _ (wT R j) = _
      exact up_s
    · rw [spd_o he]
      show va_up F (wT R j) _ k = _
      rw [up_n he]
      exact hi k hk5 hp5
  · intro F hi
    have q1 : (len ≤ m + 2) = True := eq_true (by omega)
    refine b_X10_addToTurns_55_52_p3 ?_
    simp (disch := omega) only [pk_mul, nI_add, ksub, kdv, kd8, kd64, kd2, kd3, km8, km64, kt8, ke8, ke64, kcl, kin, kle, klt, keq, up_s, up_n, up_u, true_and, and_true, false_implies, true_implies, not_false_eq_true, not_true_eq_false, q1]
    exact hQ F hi
theorem c_addm_56 {e : am_V} {I : Nat → Nat → Int32} {L : Nat → Nat → Int64} {Q : (Nat → Nat → Int32) → Prop} {t : tw} {nw R : Nat → Nat} {len m : Nat} {F : Nat → Int32} (hW : ∀ i, i < len → I 56 i = nI (R i)) (hlen : len ≤ 40) (hm : m = len - 2) (hw : wayok (t 1) R m) (hb : ∀ k, k < 512 → nw k ≤ 1000) (hpos : ∀ j, j < m → 0 < nw (wT R j)) (hF : ∀ k, k < 512 → tB t k = true → F k = nI (nw k)) (hQ : ∀ F', (∀ k, k < 512 → tB t k = true → F' k = nI (spd (fun v => v - 1) nw R m k)) → Q (va_up I 52 F')) : C_X10_addToTurns_56_52 e (nI len) (-1 : Int32) (va_up I 52 F) L Q := by
  refine b_X10_addToTurns_56_52 ?_
  refine lp_up (n := m) (S := Nat → Int32) (T := fun j F => T_X10_addToTurns_56_52_p3 e (nI len) (-1 : Int32) (nI (j + 2)) (va_up I 52 F) L Q) (fun j F => ∀ k, k < 512 → tB t k = true → F k = nI (spd (fun v => v - 1) nw R j k)) ?_ ?_ 0 F (Nat.zero_le _) hF
  · intro j F hj hi hnext
    have r0 := hW (j) (by omega)
    have r1 := hW (j + 1) (by omega)
    have r2 := hW (j + 2) (by omega)
    have z0 := hw.1 j
    have z1 := hw.1 (j + 1)
    have z2 := hw.1 (j + 2)
    have hT := wT_t hw hj
    have hT5 := wT_b (j := j) hw
    have hp := hpos j hj
    unfold wT at hp
    have e1 : F (64 * R j + 8 * R (j + 1) + R (j + 2)) = nI (nw (64 * R j + 8 * R (j + 1) + R (j + 2))) := by
      have h5 := hi (wT R j) hT5 hT
      rw [spd_n hw hj] at h5
      exact h5
    have hbb := hb (64 * R j + 8 * R (j + 1) + R (j + 2)) (by omega)
    have q1 : (len ≤ j + 2) = False := eq_false (by omega)
    have q2 : j + 2 - 2 = j := by omega
    have q3 : j + 2 - 1 = j + 1 := by omega
    refine b_X10_addToTurns_56_52_p3 ?_
    simp (disch := omega) only [pk_mul, nI_add, ksub, kdv, kd8, kd64, kd2, kd3, km8, km64, kt8, ke8, ke64, kcl, kin, kle, klt, keq, up_s, up_n, up_u, true_and, and_true, false_implies, true_implies, not_false_eq_true, not_true_eq_false, q1, q2, q3, r0, r1, r2, e1, kp1, kmx]
    refine hnext _ (fun k hk5 hp5 => ?_)
    by_cases he : k = wT R j
    · rw [he, spd_e]
      show va_up F (wT R j) _ (wT R j) = _
      exact up_s
    · rw [spd_o he]
      show va_up F (wT R j) _ k = _
      rw [up_n he]
      exact hi k hk5 hp5
  · intro F hi
    have q1 : (len ≤ m + 2) = True := eq_true (by omega)
    refine b_X10_addToTurns_56_52_p3 ?_
    simp (disch := omega) only [pk_mul, nI_add, ksub, kdv, kd8, kd64, kd2, kd3, km8, km64, kt8, ke8, ke64, kcl, kin, kle, klt, keq, up_s, up_n, up_u, true_and, and_true, false_implies, true_implies, not_false_eq_true, not_true_eq_false, q1]
    exact hQ F hi
theorem c_addp_56 {e : am_V} {I : Nat → Nat → Int32} {L : Nat → Nat → Int64} {Q : (Nat → Nat → Int32) → Prop} {t : tw} {nw R : Nat → Nat} {len m : Nat} {F : Nat → Int32} (hW : ∀ i, i < len → I 56 i = nI (R i)) (hlen : len ≤ 40) (hm : m = len - 2) (hw : wayok (t 1) R m) (hb : ∀ k, k < 512 → nw k ≤ 1000) (hF : ∀ k, k < 512 → tB t k = true → F k = nI (nw k)) (hQ : ∀ F', (∀ k, k < 512 → tB t k = true → F' k = nI (spd (fun v => v + 1) nw R m k)) → Q (va_up I 52 F')) : C_X10_addToTurns_56_52 e (nI len) (nI 1) (va_up I 52 F) L Q := by
  refine b_X10_addToTurns_56_52 ?_
  refine lp_up (n := m) (S := Nat → Int32) (T := fun j F => T_X10_addToTurns_56_52_p3 e (nI len) (nI 1) (nI (j + 2)) (va_up I 52 F) L Q) (fun j F => ∀ k, k < 512 → tB t k = true → F k = nI (spd (fun v => v + 1) nw R j k)) ?_ ?_ 0 F (Nat.zero_le _) hF
  · intro j F hj hi hnext
    have r0 := hW (j) (by omega)
    have r1 := hW (j + 1) (by omega)
    have r2 := hW (j + 2) (by omega)
    have z0 := hw.1 j
    have z1 := hw.1 (j + 1)
    have z2 := hw.1 (j + 2)
    have hT := wT_t hw hj
    have hT5 := wT_b (j := j) hw
    have e1 : F (64 * R j + 8 * R (j + 1) + R (j + 2)) = nI (nw (64 * R j + 8 * R (j + 1) + R (j + 2))) := by
      have h5 := hi (wT R j) hT5 hT
      rw [spd_n hw hj] at h5
      exact h5
    have hbb := hb (64 * R j + 8 * R (j + 1) + R (j + 2)) (by omega)
    have q1 : (len ≤ j + 2) = False := eq_false (by omega)
    have q2 : j + 2 - 2 = j := by omega
    have q3 : j + 2 - 1 = j + 1 := by omega
    refine b_X10_addToTurns_56_52_p3 ?_
    simp (disch := omega) only [pk_mul, nI_add, ksub, kdv, kd8, kd64, kd2, kd3, km8, km64, kt8, ke8, ke64, kcl, kin, kle, klt, keq, up_s, up_n, up_u, true_and, and_true, false_implies, true_implies, not_false_eq_true, not_true_eq_false, q1, q2, q3, r0, r1, r2, e1, kp1, kmx]
    refine hnext _ (fun k hk5 hp5 => ?_)
    by_cases he : k = wT R j
    · rw [he, spd_e]
      show va_up F (wT R j) _ (wT R j) = _
      exact up_s
    · rw [spd_o he]
      show va_up F (wT R j) _ k = _
      rw [up_n he]
      exact hi k hk5 hp5
  · intro F hi
    have q1 : (len ≤ m + 2) = True := eq_true (by omega)
    refine b_X10_addToTurns_56_52_p3 ?_
    simp (disch := omega) only [pk_mul, nI_add, ksub, kdv, kd8, kd64, kd2, kd3, km8, km64, kt8, ke8, ke64, kcl, kin, kle, klt, keq, up_s, up_n, up_u, true_and, and_true, false_implies, true_implies, not_false_eq_true, not_true_eq_false, q1]
    exact hQ F hi
theorem c_addm_57 {e : am_V} {I : Nat → Nat → Int32} {L : Nat → Nat → Int64} {Q : (Nat → Nat → Int32) → Prop} {t : tw} {nw R : Nat → Nat} {len m : Nat} {F : Nat → Int32} (hW : ∀ i, i < len → I 57 i = nI (R i)) (hlen : len ≤ 40) (hm : m = len - 2) (hw : wayok (t 1) R m) (hb : ∀ k, k < 512 → nw k ≤ 1000) (hpos : ∀ j, j < m → 0 < nw (wT R j)) (hF : ∀ k, k < 512 → tB t k = true → F k = nI (nw k)) (hQ : ∀ F', (∀ k, k < 512 → tB t k = true → F' k = nI (spd (fun v => v - 1) nw R m k)) → Q (va_up I 52 F')) : C_X10_addToTurns_57_52 e (nI len) (-1 : Int32) (va_up I 52 F) L Q := by
  refine b_X10_addToTurns_57_52 ?_
  refine lp_up (n := m) (S := Nat → Int32) (T := fun j F => T_X10_addToTurns_57_52_p3 e (nI len) (-1 : Int32) (nI (j + 2)) (va_up I 52 F) L Q) (fun j F => ∀ k, k < 512 → tB t k = true → F k = nI (spd (fun v => v - 1) nw R j k)) ?_ ?_ 0 F (Nat.zero_le _) hF
  · intro j F hj hi hnext
    have r0 := hW (j) (by omega)
    have r1 := hW (j + 1) (by omega)
    have r2 := hW (j + 2) (by omega)
    have z0 := hw.1 j
    have z1 := hw.1 (j + 1)
    have z2 := hw.1 (j + 2)
    have hT := wT_t hw hj
    have hT5 := wT_b (j := j) hw
    have hp := hpos j hj
    unfold wT at hp
    have e1 : F (64 * R j + 8 * R (j + 1) + R (j + 2)) = nI (nw (64 * R j + 8 * R (j + 1) + R (j + 2))) := by
      have h5 := hi (wT R j) hT5 hT
      rw [spd_n hw hj] at h5
      exact h5
    have hbb := hb (64 * R j + 8 * R (j + 1) + R (j + 2)) (by omega)
    have q1 : (len ≤ j + 2) = False := eq_false (by omega)
    have q2 : j + 2 - 2 = j := by omega
    have q3 : j + 2 - 1 = j + 1 := by omega
    refine b_X10_addToTurns_57_52_p3 ?_
    simp (disch := omega) only [pk_mul, nI_add, ksub, kdv, kd8, kd64, kd2, kd3, km8, km64, kt8, ke8, ke64, kcl, kin, kle, klt, keq, up_s, up_n, up_u, true_and, and_true, false_implies, true_implies, not_false_eq_true, not_true_eq_false, q1, q2, q3, r0, r1, r2, e1, kp1, kmx]
    refine hnext _ (fun k hk5 hp5 => ?_)
    by_cases he : k = wT R j
    · rw [he, spd_e]
      show va_up F (wT R j) _ (wT R j) = _
      exact up_s
    · rw [spd_o he]
      show va_up F (wT R j) _ k = _
      rw [up_n he]
      exact hi k hk5 hp5
  · intro F hi
    have q1 : (len ≤ m + 2) = True := eq_true (by omega)
    refine b_X10_addToTurns_57_52_p3 ?_
    simp (disch := omega) only [pk_mul, nI_add, ksub, kdv, kd8, kd64, kd2, kd3, km8, km64, kt8, ke8, ke64, kcl, kin, kle, klt, keq, up_s, up_n, up_u, true_and, and_true, false_implies, true_implies, not_false_eq_true, not_true_eq_false, q1]
    exact hQ F hi
theorem c_addp_57 {e : am_V} {I : Nat → Nat → Int32} {L : Nat → Nat → Int64} {Q : (Nat → Nat → Int32) → Prop} {t : tw} {nw R : Nat → Nat} {len m : Nat} {F : Nat → Int32} (hW : ∀ i, i < len → I 57 i = nI (R i)) (hlen : len ≤ 40) (hm : m = len - 2) (hw : wayok (t 1) R m) (hb : ∀ k, k < 512 → nw k ≤ 1000) (hF : ∀ k, k < 512 → tB t k = true → F k = nI (nw k)) (hQ : ∀ F', (∀ k, k < 512 → tB t k = true → F' k = nI (spd (fun v => v + 1) nw R m k)) → Q (va_up I 52 F')) : C_X10_addToTurns_57_52 e (nI len) (nI 1) (va_up I 52 F) L Q := by
  refine b_X10_addToTurns_57_52 ?_
  refine lp_up (n := m) (S := Nat → Int32) (T := fun j F => T_X10_addToTurns_57_52_p3 e (nI len) (nI 1) (nI (j + 2)) (va_up I 52 F) L Q) (fun j F => ∀ k, k < 512 → tB t k = true → F k = nI (spd (fun v => v + 1) nw R j k)) ?_ ?_ 0 F (Nat.zero_le _) hF
  · intro j F hj hi hnext
    have r0 := hW (j) (by omega)
    have r1 := hW (j + 1) (by omega)
    have r2 := hW (j + 2) (by omega)
    have z0 := hw.1 j
    have z1 := hw.1 (j + 1)
    have z2 := hw.1 (j + 2)
    have hT := wT_t hw hj
    have hT5 := wT_b (j := j) hw
    have e1 : F (64 * R j + 8 * R (j + 1) + R (j + 2)) = nI (nw (64 * R j + 8 * R (j + 1) + R (j + 2))) := by
      have h5 := hi (wT R j) hT5 hT
      rw [spd_n hw hj] at h5
      exact h5
    have hbb := hb (64 * R j + 8 * R (j + 1) + R (j + 2)) (by omega)
    have q1 : (len ≤ j + 2) = False := eq_false (by omega)
    have q2 : j + 2 - 2 = j := by omega
    have q3 : j + 2 - 1 = j + 1 := by omega
    refine b_X10_addToTurns_57_52_p3 ?_
    simp (disch := omega) only [pk_mul, nI_add, ksub, kdv, kd8, kd64, kd2, kd3, km8, km64, kt8, ke8, ke64, kcl, kin, kle, klt, keq, up_s, up_n, up_u, true_and, and_true, false_implies, true_implies, not_false_eq_true, not_true_eq_false, q1, q2, q3, r0, r1, r2, e1, kp1, kmx]
    refine hnext _ (fun k hk5 hp5 => ?_)
    by_cases he : k = wT R j
    · rw [he, spd_e]
      show va_up F (wT R j) _ (wT R j) = _
      exact up_s
    · rw [spd_o he]
      show va_up F (wT R j) _ k = _
      rw [up_n he]
      exact hi k hk5 hp5
  · intro F hi
    have q1 : (len ≤ m + 2) = True := eq_true (by omega)
    refine b_X10_addToTurns_57_52_p3 ?_
    simp (disch := omega) only [pk_mul, nI_add, ksub, kdv, kd8, kd64, kd2, kd3, km8, km64, kt8, ke8, ke64, kcl, kin, kle, klt, keq, up_s, up_n, up_u, true_and, and_true, false_implies, true_implies, not_false_eq_true, not_true_eq_false, q1]
    exact hQ F hi
theorem c_addm_58 {e : am_V} {I : Nat → Nat → Int32} {L : Nat → Nat → Int64} {Q : (Nat → Nat → Int32) → Prop} {t : tw} {nw R : Nat → Nat} {len m : Nat} {F : Nat → Int32} (hW : ∀ i, i < len → I 58 i = nI (R i)) (hlen : len ≤ 40) (hm : m = len - 2) (hw : wayok (t 1) R m) (hb : ∀ k, k < 512 → nw k ≤ 1000) (hpos : ∀ j, j < m → 0 < nw (wT R j)) (hF : ∀ k, k < 512 → tB t k = true → F k = nI (nw k)) (hQ : ∀ F', (∀ k, k < 512 → tB t k = true → F' k = nI (spd (fun v => v - 1) nw R m k)) → Q (va_up I 52 F')) : C_X10_addToTurns_58_52 e (nI len) (-1 : Int32) (va_up I 52 F) L Q := by
  refine b_X10_addToTurns_58_52 ?_
  refine lp_up (n := m) (S := Nat → Int32) (T := fun j F => T_X10_addToTurns_58_52_p3 e (nI len) (-1 : Int32) (nI (j + 2)) (va_up I 52 F) L Q) (fun j F => ∀ k, k < 512 → tB t k = true → F k = nI (spd (fun v => v - 1) nw R j k)) ?_ ?_ 0 F (Nat.zero_le _) hF
  · intro j F hj hi hnext
    have r0 := hW (j) (by omega)
    have r1 := hW (j + 1) (by omega)
    have r2 := hW (j + 2) (by omega)
    have z0 := hw.1 j
    have z1 := hw.1 (j + 1)
    have z2 := hw.1 (j + 2)
    have hT := wT_t hw hj
    have hT5 := wT_b (j := j) hw
    have hp := hpos j hj
    unfold wT at hp
    have e1 : F (64 * R j + 8 * R (j + 1) + R (j + 2)) = nI (nw (64 * R j + 8 * R (j + 1) + R (j + 2))) := by
      have h5 := hi (wT R j) hT5 hT
      rw [spd_n hw hj] at h5
      exact h5
    have hbb := hb (64 * R j + 8 * R (j + 1) + R (j + 2)) (by omega)
    have q1 : (len ≤ j + 2) = False := eq_false (by omega)
    have q2 : j + 2 - 2 = j := by omega
    have q3 : j + 2 - 1 = j + 1 := by omega
    refine b_X10_addToTurns_58_52_p3 ?_
    simp (disch := omega) only [pk_mul, nI_add, ksub, kdv, kd8, kd64, kd2, kd3, km8, km64, kt8, ke8, ke64, kcl, kin, kle, klt, keq, up_s, up_n, up_u, true_and, and_true, false_implies, true_implies, not_false_eq_true, not_true_eq_false, q1, q2, q3, r0, r1, r2, e1, kp1, kmx]
    refine hnext _ (fun k hk5 hp5 => ?_)
    by_cases he : k = wT R j
    · rw [he, spd_e]
      show va_up F (wT R j) _ (wT R j) = _
      exact up_s
    · rw [spd_o he]
      show va_up F (wT R j) _ k = _
      rw [up_n he]
      exact hi k hk5 hp5
  · intro F hi
    have q1 : (len ≤ m + 2) = True := eq_true (by omega)
    refine b_X10_addToTurns_58_52_p3 ?_
    simp (disch := omega) only [pk_mul, nI_add, ksub, kdv, kd8, kd64, kd2, kd3, km8, km64, kt8, ke8, ke64, kcl, kin, kle, klt, keq, up_s, up_n, up_u, true_and, and_true, false_implies, true_implies, not_false_eq_true, not_true_eq_false, q1]
    exact hQ F hi
theorem c_addp_58 {e : am_V} {I : Nat → Nat → Int32} {L : Nat → Nat → Int64} {Q : (Nat → Nat → Int32) → Prop} {t : tw} {nw R : Nat → Nat} {len m : Nat} {F : Nat → Int32} (hW : ∀ i, i < len → I 58 i = nI (R i)) (hlen : len ≤ 40) (hm : m = len - 2) (hw : wayok (t 1) R m) (hb : ∀ k, k < 512 → nw k ≤ 1000) (hF : ∀ k, k < 512 → tB t k = true → F k = nI (nw k)) (hQ : ∀ F', (∀ k, k < 512 → tB t k = true → F' k = nI (spd (fun v => v + 1) nw R m k)) → Q (va_up I 52 F')) : C_X10_addToTurns_58_52 e (nI len) (nI 1) (va_up I 52 F) L Q := by
  refine b_X10_addToTurns_58_52 ?_
  refine lp_up (n := m) (S := Nat → Int32) (T := fun j F => T_X10_addToTurns_58_52_p3 e (nI len) (nI 1) (nI (j + 2)) (va_up I 52 F) L Q) (fun j F => ∀ k, k < 512 → tB t k = true → F k = nI (spd (fun v => v + 1) nw R j k)) ?_ ?_ 0 F (Nat.zero_le _) hF
  · intro j F hj hi hnext
    have r0 := hW (j) (by omega)
    have r1 := hW (j + 1) (by omega)
    have r2 := hW (j + 2) (by omega)
    have z0 := hw.1 j
    have z1 := hw.1 (j + 1)
    have z2 := hw.1 (j + 2)
    have hT := wT_t hw hj
    have hT5 := wT_b (j := j) hw
    have e1 : F (64 * R j + 8 * R (j + 1) + R (j + 2)) = nI (nw (64 * R j + 8 * R (j + 1) + R (j + 2))) := by
      have h5 := hi (wT R j) hT5 hT
      rw [spd_n hw hj] at h5
      exact h5
    have hbb := hb (64 * R j + 8 * R (j + 1) + R (j + 2)) (by omega)
    have q1 : (len ≤ j + 2) = False := eq_false (by omega)
    have q2 : j + 2 - 2 = j := by omega
    have q3 : j + 2 - 1 = j + 1 := by omega
    refine b_X10_addToTurns_58_52_p3 ?_
    simp (disch := omega) only [pk_mul, nI_add, ksub, kdv, kd8, kd64, kd2, kd3, km8, km64, kt8, ke8, ke64, kcl, kin, kle, klt, keq, up_s, up_n, up_u, true_and, and_true, false_implies, true_implies, not_false_eq_true, not_true_eq_false, q1, q2, q3, r0, r1, r2, e1, kp1, kmx]
    refine hnext _ (fun k hk5 hp5 => ?_)
    by_cases he : k = wT R j
    · rw [he, spd_e]
      show va_up F (wT R j) _ (wT R j) = _
      exact up_s
    · rw [spd_o he]
      show va_up F (wT R j) _ k = _
      rw [up_n he]
      exact hi k hk5 hp5
  · intro F hi
    have q1 : (len ≤ m + 2) = True := eq_true (by omega)
    refine b_X10_addToTurns_58_52_p3 ?_
    simp (disch := omega) only [pk_mul, nI_add, ksub, kdv, kd8, kd64, kd2, kd3, km8, km64, kt8, ke8, ke64, kcl, kin, kle, klt, keq, up_s, up_n, up_u, true_and, and_true, false_implies, true_implies, not_false_eq_true, not_true_eq_false, q1]
    exact hQ F hi
theorem c_addm_59 {e : am_V} {I : Nat → Nat → Int32} {L : Nat → Nat → Int64} {Q : (Nat → Nat → Int32) → Prop} {t : tw} {nw R : Nat → Nat} {len m : Nat} {F : Nat → Int32} (hW : ∀ i, i < len → I 59 i = nI (R i)) (hlen : len ≤ 40) (hm : m = len - 2) (hw : wayok (t 1) R m) (hb : ∀ k, k < 512 → nw k ≤ 1000) (hpos : ∀ j, j < m → 0 < nw (wT R j)) (hF : ∀ k, k < 512 → tB t k = true → F k = nI (nw k)) (hQ : ∀ F', (∀ k, k < 512 → tB t k = true → F' k = nI (spd (fun v => v - 1) nw R m k)) → Q (va_up I 52 F')) : C_X10_addToTurns_59_52 e (nI len) (-1 : Int32) (va_up I 52 F) L Q := by
  refine b_X10_addToTurns_59_52 ?_
  refine lp_up (n := m) (S := Nat → Int32) (T := fun j F => T_X10_addToTurns_59_52_p3 e (nI len) (-1 : Int32) (nI (j + 2)) (va_up I 52 F) L Q) (fun j F => ∀ k, k < 512 → tB t k = true → F k = nI (spd (fun v => v - 1) nw R j k)) ?_ ?_ 0 F (Nat.zero_le _) hF
  · intro j F hj hi hnext
    have r0 := hW (j) (by omega)
    have r1 := hW (j + 1) (by omega)
    have r2 := hW (j + 2) (by omega)
    have z0 := hw.1 j
    have z1 := hw.1 (j + 1)
    have z2 := hw.1 (j + 2)
    have hT := wT_t hw hj
    have hT5 := wT_b (j := j) hw
    have hp := hpos j hj
    unfold wT at hp
    have e1 : F (64 * R j + 8 * R (j + 1) + R (j + 2)) = nI (nw (64 * R j + 8 * R (j + 1) + R (j + 2))) := by
      have h5 := hi (wT R j) hT5 hT
      rw [spd_n hw hj] at h5
      exact h5
    have hbb := hb (64 * R j + 8 * R (j + 1) + R (j + 2)) (by omega)
    have q1 : (len ≤ j + 2) = False := eq_false (by omega)
    have q2 : j + 2 - 2 = j := by omega
    have q3 : j + 2 - 1 = j + 1 := by omega
    refine b_X10_addToTurns_59_52_p3 ?_
    simp (disch := omega) only [pk_mul, nI_add, ksub, kdv, kd8, kd64, kd2, kd3, km8, km64, kt8, ke8, ke64, kcl, kin, kle, klt, keq, up_s, up_n, up_u, true_and, and_true, false_implies, true_implies, not_false_eq_true, not_true_eq_false, q1, q2, q3, r0, r1, r2, e1, kp1, kmx]
    refine hnext _ (fun k hk5 hp5 => ?_)
    by_cases he : k = wT R j
    · rw [he, spd_e]
      show va_up F (wT R j) _ (wT R j) = _
      exact up_s
    · rw [spd_o he]
      show va_up F (wT R j) _ k = _
      rw [up_n he]
      exact hi k hk5 hp5
  · intro F hi
    have q1 : (len ≤ m + 2) = True := eq_true (by omega)
    refine b_X10_addToTurns_59_52_p3 ?_
    simp (disch := omega) only [pk_mul, nI_add, ksub, kdv, kd8, kd64, kd2, kd3, km8, km64, kt8, ke8, ke64, kcl, kin, kle, klt, keq, up_s, up_n, up_u, true_and, and_true, false_implies, true_implies, not_false_eq_true, not_true_eq_false, q1]
    exact hQ F hi
theorem c_addp_59 {e : am_V} {I : Nat → Nat → Int32} {L : Nat → Nat → Int64} {Q : (Nat → Nat → Int32) → Prop} {t : tw} {nw R : Nat → Nat} {len m : Nat} {F : Nat → Int32} (hW : ∀ i, i < len → I 59 i = nI (R i)) (hlen : len ≤ 40) (hm : m = len - 2) (hw : wayok (t 1) R m) (hb : ∀ k, k < 512 → nw k ≤ 1000) (hF : ∀ k, k < 512 → tB t k = true → F k = nI (nw k)) (hQ : ∀ F', (∀ k, k < 512 → tB t k = true → F' k = nI (spd (fun v => v + 1) nw R m k)) → Q (va_up I 52 F')) : C_X10_addToTurns_59_52 e (nI len) (nI 1) (va_up I 52 F) L Q := by
  refine b_X10_addToTurns_59_52 ?_
  refine lp_up (n := m) (S := Nat → Int32) (T := fun j F => T_X10_addToTurns_59_52_p3 e (nI len) (nI 1) (nI (j + 2)) (va_up I 52 F) L Q) (fun j F => ∀ k, k < 512 → tB t k = true → F k = nI (spd (fun v => v + 1) nw R j k)) ?_ ?_ 0 F (Nat.zero_le _) hF
  · intro j F hj hi hnext
    have r0 := hW (j) (by omega)
    have r1 := hW (j + 1) (by omega)
    have r2 := hW (j + 2) (by omega)
    have z0 := hw.1 j
    have z1 := hw.1 (j + 1)
    have z2 := hw.1 (j + 2)
    have hT := wT_t hw hj
    have hT5 := wT_b (j := j) hw
    have e1 : F (64 * R j + 8 * R (j + 1) + R (j + 2)) = nI (nw (64 * R j + 8 * R (j + 1) + R (j + 2))) := by
      have h5 := hi (wT R j) hT5 hT
      rw [spd_n hw hj] at h5
      exact h5
    have hbb := hb (64 * R j + 8 * R (j + 1) + R (j + 2)) (by omega)
    have q1 : (len ≤ j + 2) = False := eq_false (by omega)
    have q2 : j + 2 - 2 = j := by omega
    have q3 : j + 2 - 1 = j + 1 := by omega
    refine b_X10_addToTurns_59_52_p3 ?_
    simp (disch := omega) only [pk_mul, nI_add, ksub, kdv, kd8, kd64, kd2, kd3, km8, km64, kt8, ke8, ke64, kcl, kin, kle, klt, keq, up_s, up_n, up_u, true_and, and_true, false_implies, true_implies, not_false_eq_true, not_true_eq_false, q1, q2, q3, r0, r1, r2, e1, kp1, kmx]
    refine hnext _ (fun k hk5 hp5 => ?_)
    by_cases he : k = wT R j
    · rw [he, spd_e]
      show va_up F (wT R j) _ (wT R j) = _
      exact up_s
    · rw [spd_o he]
      show va_up F (wT R j) _ k = _
      rw [up_n he]
      exact hi k hk5 hp5
  · intro F hi
    have q1 : (len ≤ m + 2) = True := eq_true (by omega)
    refine b_X10_addToTurns_59_52_p3 ?_
    simp (disch := omega) only [pk_mul, nI_add, ksub, kdv, kd8, kd64, kd2, kd3, km8, km64, kt8, ke8, ke64, kcl, kin, kle, klt, keq, up_s, up_n, up_u, true_and, and_true, false_implies, true_implies, not_false_eq_true, not_true_eq_false, q1]
    exact hQ F hi
theorem spd_pm {st nw R : Nat → Nat} {m k : Nat} (h : wayok st R m) (hpos : ∀ j, j < m → 0 < nw (wT R j)) : spd (fun v => v + 1) (spd (fun v => v - 1) nw R m) R m k = nw k := by
  unfold spd
  by_cases ho : onW R k m = true
  · rw [if_pos ho, if_pos ho]
    obtain ⟨j, hj, rfl⟩ := onW_i.mp ho
    have := hpos j hj
    show nw (wT R j) - 1 + 1 = nw (wT R j)
    omega
  · rw [if_neg ho, if_neg ho]
/-- one order came to its end -/
noncomputable def lfd (t : tw) (l : List Nat) : Option (Nat × Nat × List Nat) → Option (Nat × Nat × List Nat)
  | none => some ((dyL t (-1) l).2.1, (dyL t (-1) l).2.2.1, l)
  | some b => if b.1 < (dyL t (-1) l).2.1 then some ((dyL t (-1) l).2.1, (dyL t (-1) l).2.2.1, l) else if (dyL t (-1) l).2.1 = b.1 then some (b.1, if (dyL t (-1) l).2.2.1 < b.2.1 then (dyL t (-1) l).2.2.1 else b.2.1, b.2.2) else some b
/-- all orders that begin so -/
noncomputable def dsr (t : tw) : Nat → List Nat → Option (Nat × Nat × List Nat) → Option (Nat × Nat × List Nat)
  | 0, l, b => lfd t l b
  | k + 1, l, b => acc (fun j b => if l.contains j = true then b else dsr t k (l ++ [j]) b) b (t 0 4)
/-- an order's beginning -/
def oOK (t : tw) (l : List Nat) : Prop := (∀ j, j ∈ l → j < t 0 4) ∧ cn (fun j => l.contains j) 8 = l.length
def msk (l : List Nat) : Nat := bts (fun j => l.contains j) 8
theorem ct_a (l : List Nat) (j : Nat) : (fun i => (l ++ [j]).contains i) = va_up (fun i => l.contains i) j true := by
  funext i
  by_cases he : i = j
  · rw [he, up_s]
    exact List.contains_iff_mem.mpr (List.mem_append.mpr (Or.inr (List.mem_singleton.mpr rfl)))
  · rw [up_n he]
    cases h : l.contains i with
    | true => exact List.contains_iff_mem.mpr (List.mem_append.mpr (Or.inl (List.contains_iff_mem.mp h)))
    | false =>
      cases h2 : (l ++ [j]).contains i with
      | false => rfl
      | true =>
        rcases List.mem_append.mp (List.contains_iff_mem.mp h2) with h3 | h3
        · rw [List.contains_iff_mem.mpr h3] at h; cases h
        · exact absurd (List.mem_singleton.mp h3) he
theorem oOK_a {t : tw} {l : List Nat} {j : Nat} (h : oOK t l) (hj : j < t 0 4) (h6 : t 0 4 ≤ 6) (hc : l.contains j = false) : oOK t (l ++ [j]) := by
  refine ⟨fun i hi => ?_, ?_⟩
  · rcases List.mem_append.mp hi with h3 | h3
    · exact h.1 i h3
    · rw [List.mem_singleton.mp h3]; exact hj
  · rw [ct_a, cn_u (by omega) hc, h.2, List.length_append]
    rfl
theorem msk_a {l : List Nat} {j : Nat} (hj : j < 8) : msk l ||| 2 ^ j = msk (l ++ [j]) := by
  unfold msk
  refine bts_u (fun y => ?_)
  rw [Nat.testBit_or, bts_t, Nat.testBit_two_pow]
  have hct := congrFun (ct_a l j) y
  rw [hct]
  by_cases he : y = j
  · rw [he, up_s, decide_eq_true hj, decide_eq_true rfl, Bool.or_true]; rfl
  · rw [up_n he, decide_eq_false (p := j = y) (fun h => he h.symm), Bool.or_false]
theorem oOK_l {t : tw} {l : List Nat} (h : oOK t l) (h6 : t 0 4 ≤ 6) : l.length ≤ t 0 4 := by
  rw [← h.2]
  have h1 : cn (fun j => l.contains j) 8 = cn (fun j => l.contains j) (t 0 4) := cn_x (by omega) (fun k h1 h2 => by
    cases hc : l.contains k with
    | false => rfl
    | true => have := h.1 k (List.contains_iff_mem.mp hc); omega)
  rw [h1]
  exact cn_n _ _
theorem kb0 : ∀ b, b < 256 → ∀ y, y < 8 → ((nI b >>> (nI y &&& 31)) &&& nI 1 = nI 0 ↔ Nat.testBit b y = false) := by decide +kernel
