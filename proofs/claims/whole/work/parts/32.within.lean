/-! rows filled; the class's search of what can be come to -/
theorem vz0 : vp_nar .boolean (nI 0) = nI 0 := rfl
theorem c_fill_16 {e : am_V} {I : Nat → Nat → Int32} {L : Nat → Nat → Int64} {Q : (Nat → Nat → Int32) → Prop} {v : Int32} (hQ : ∀ F', (∀ k, k < 64 → F' k = v) → Q (va_up I 16 F')) : C_J7_fill_53178_16 e v I L Q := by
  refine b_J7_fill_53178_16 ?_
  have h0 : T_J7_fill_53178_16_p5 e v (nI 0) (nI 64) (va_up I 16 (I 16)) L Q := by
    refine lp_up (n := 64) (S := Nat → Int32) (T := fun k F => T_J7_fill_53178_16_p5 e v (nI k) (nI 64) (va_up I 16 F) L Q) (fun k F => ∀ j, j < k → F j = v) ?_ ?_ 0 (I 16) (Nat.zero_le _) (fun j h => absurd h (Nat.not_lt_zero _))
    · intro k F hk hi hnext
      refine b_J7_fill_53178_16_p5 ?_
      have hnk : (64 ≤ k) = False := eq_false (by omega)
      simp (disch := omega) only [pk_mul, nI_add, ksub, kdv, kd8, kd64, kd2, kd3, km8, km64, kt8, ke8, ke64, kcl, kin, kle, klt, keq, up_s, up_n, up_u, true_and, and_true, false_implies, true_implies, not_false_eq_true, not_true_eq_false, hnk]
      refine hnext _ (fun j hj => ?_)
      by_cases he : j = k
      · rw [he, up_s]
      · rw [up_n he]; exact hi j (by omega)
    · intro F hi
      refine b_J7_fill_53178_16_p5 ?_
      have hnn : (64 ≤ 64) = True := eq_true (Nat.le_refl _)
      simp (disch := omega) only [pk_mul, nI_add, ksub, kdv, kd8, kd64, kd2, kd3, km8, km64, kt8, ke8, ke64, kcl, kin, kle, klt, keq, up_s, up_n, up_u, true_and, and_true, false_implies, true_implies, not_false_eq_true, not_true_eq_false, hnn]
      exact hQ F hi
  rw [up_id] at h0
  exact h0
theorem c_fill_44 {e : am_V} {I : Nat → Nat → Int32} {L : Nat → Nat → Int64} {Q : (Nat → Nat → Int32) → Prop} {v : Int32} (hQ : ∀ F', (∀ k, k < 512 → F' k = v) → Q (va_up I 44 F')) : C_J7_fill_53178_44 e v I L Q := by
  refine b_J7_fill_53178_44 ?_
  have h0 : T_J7_fill_53178_44_p5 e v (nI 0) (nI 512) (va_up I 44 (I 44)) L Q := by
    refine lp_up (n := 512) (S := Nat → Int32) (T := fun k F => T_J7_fill_53178_44_p5 e v (nI k) (nI 512) (va_up I 44 F) L Q) (fun k F => ∀ j, j < k → F j = v) ?_ ?_ 0 (I 44) (Nat.zero_le _) (fun j h => absurd h (Nat.not_lt_zero _))
    · intro k F hk hi hnext
      refine b_J7_fill_53178_44_p5 ?_
      have hnk : (512 ≤ k) = False := eq_false (by omega)
      simp (disch := omega) only [pk_mul, nI_add, ksub, kdv, kd8, kd64, kd2, kd3, km8, km64, kt8, ke8, ke64, kcl, kin, kle, klt, keq, up_s, up_n, up_u, true_and, and_true, false_implies, true_implies, not_false_eq_true, not_true_eq_false, hnk]
      refine hnext _ (fun j hj => ?_)
      by_cases he : j = k
      · rw [he, up_s]
      · rw [up_n he]; exact hi j (by omega)
    · intro F hi
      refine b_J7_fill_53178_44_p5 ?_
      have hnn : (512 ≤ 512) = True := eq_true (Nat.le_refl _)
      simp (disch := omega) only [pk_mul, nI_add, ksub, kdv, kd8, kd64, kd2, kd3, km8, km64, kt8, ke8, ke64, kcl, kin, kle, klt, keq, up_s, up_n, up_u, true_and, and_true, false_implies, true_implies, not_false_eq_true, not_true_eq_false, hnn]
      exact hQ F hi
  rw [up_id] at h0
  exact h0
theorem c_fill_2 {e : am_V} {I : Nat → Nat → Int32} {L : Nat → Nat → Int64} {Q : (Nat → Nat → Int32) → Prop} {v : Int32} (hQ : ∀ F', (∀ k, k < 512 → F' k = v) → Q (va_up I 2 F')) : C_J7_fill_53178_2 e v I L Q := by
  refine b_J7_fill_53178_2 ?_
  have h0 : T_J7_fill_53178_2_p5 e v (nI 0) (nI 512) (va_up I 2 (I 2)) L Q := by
    refine lp_up (n := 512) (S := Nat → Int32) (T := fun k F => T_J7_fill_53178_2_p5 e v (nI k) (nI 512) (va_up I 2 F) L Q) (fun k F => ∀ j, j < k → F j = v) ?_ ?_ 0 (I 2) (Nat.zero_le _) (fun j h => absurd h (Nat.not_lt_zero _))
    · intro k F hk hi hnext
      refine b_J7_fill_53178_2_p5 ?_
      have hnk : (512 ≤ k) = False := eq_false (by omega)
      simp (disch := omega) only [pk_mul, nI_add, ksub, kdv, kd8, kd64, kd2, kd3, km8, km64, kt8, ke8, ke64, kcl, kin, kle, klt, keq, up_s, up_n, up_u, true_and, and_true, false_implies, true_implies, not_false_eq_true, not_true_eq_false, hnk]
      refine hnext _ (fun j hj => ?_)
      by_cases he : j = k
      · rw [he, up_s]
      · rw [up_n he]; exact hi j (by omega)
    · intro F hi
      refine b_J7_fill_53178_2_p5 ?_
      have hnn : (512 ≤ 512) = True := eq_true (Nat.le_refl _)
      simp (disch := omega) only [pk_mul, nI_add, ksub, kdv, kd8, kd64, kd2, kd3, km8, km64, kt8, ke8, ke64, kcl, kin, kle, klt, keq, up_s, up_n, up_u, true_and, and_true, false_implies, true_implies, not_false_eq_true, not_true_eq_false, hnn]
      exact hQ F hi
  rw [up_id] at h0
  exact h0
theorem c_fill_67 {e : am_V} {I : Nat → Nat → Int32} {L : Nat → Nat → Int64} {Q : (Nat → Nat → Int32) → Prop} {v : Int32} (hQ : ∀ F', (∀ k, k < 64 → F' k = v) → Q (va_up I 67 F')) : C_J7_fill_53178_67 e v I L Q := by
  refine b_J7_fill_53178_67 ?_
  have h0 : T_J7_fill_53178_67_p5 e v (nI 0) (nI 64) (va_up I 67 (I 67)) L Q := by
    refine lp_up (n := 64) (S := Nat → Int32) (T := fun k F => T_J7_fill_53178_67_p5 e v (nI k) (nI 64) (va_up I 67 F) L Q) (fun k F => ∀ j, j < k → F j = v) ?_ ?_ 0 (I 67) (Nat.zero_le _) (fun j h => absurd h (Nat.not_lt_zero _))
    · intro k F hk hi hnext
      refine b_J7_fill_53178_67_p5 ?_
      have hnk : (64 ≤ k) = False := eq_false (by omega)
      simp (disch := omega) only [pk_mul, nI_add, ksub, kdv, kd8, kd64, kd2, kd3, km8, km64, kt8, ke8, ke64, kcl, kin, kle, klt, keq, up_s, up_n, up_u, true_and, and_true, false_implies, true_implies, not_false_eq_true, not_true_eq_false, hnk]
      refine hnext _ (fun j hj => ?_)
      by_cases he : j = k
      · rw [he, up_s]
      · rw [up_n he]; exact hi j (by omega)
    · intro F hi
      refine b_J7_fill_53178_67_p5 ?_
      have hnn : (64 ≤ 64) = True := eq_true (Nat.le_refl _)
      simp (disch := omega) only [pk_mul, nI_add, ksub, kdv, kd8, kd64, kd2, kd3, km8, km64, kt8, ke8, ke64, kcl, kin, kle, klt, keq, up_s, up_n, up_u, true_and, and_true, false_implies, true_implies, not_false_eq_true, not_true_eq_false, hnn]
      exact hQ F hi
  rw [up_id] at h0
  exact h0
theorem c_fill_63 {e : am_V} {I : Nat → Nat → Int32} {L : Nat → Nat → Int64} {Q : (Nat → Nat → Int32) → Prop} {v : Int32} (hQ : ∀ F', (∀ k, k < 8 → F' k = v) → Q (va_up I 63 F')) : C_J7_fill_53178_63 e v I L Q := by
  refine b_J7_fill_53178_63 ?_
  have h0 : T_J7_fill_53178_63_p5 e v (nI 0) (nI 8) (va_up I 63 (I 63)) L Q := by
    refine lp_up (n := 8) (S := Nat → Int32) (T := fun k F => T_J7_fill_53178_63_p5 e v (nI k) (nI 8) (va_up I 63 F) L Q) (fun k F => ∀ j, j < k → F j = v) ?_ ?_ 0 (I 63) (Nat.zero_le _) (fun j h => absurd h (Nat.not_lt_zero _))
    · intro k F hk hi hnext
      refine b_J7_fill_53178_63_p5 ?_
      have hnk : (8 ≤ k) = False := eq_false (by omega)
      simp (disch := omega) only [pk_mul, nI_add, ksub, kdv, kd8, kd64, kd2, kd3, km8, km64, kt8, ke8, ke64, kcl, kin, kle, klt, keq, up_s, up_n, up_u, true_and, and_true, false_implies, true_implies, not_false_eq_true, not_true_eq_false, hnk]
      refine hnext _ (fun j hj => ?_)
      by_cases he : j = k
      · rw [he, up_s]
      · rw [up_n he]; exact hi j (by omega)
    · intro F hi
      refine b_J7_fill_53178_63_p5 ?_
      have hnn : (8 ≤ 8) = True := eq_true (Nat.le_refl _)
      simp (disch := omega) only [pk_mul, nI_add, ksub, kdv, kd8, kd64, kd2, kd3, km8, km64, kt8, ke8, ke64, kcl, kin, kle, klt, keq, up_s, up_n, up_u, true_and, and_true, false_implies, true_implies, not_false_eq_true, not_true_eq_false, hnn]
      exact hQ F hi
  rw [up_id] at h0
  exact h0
theorem c_fill_64 {e : am_V} {I : Nat → Nat → Int32} {L : Nat → Nat → Int64} {Q : (Nat → Nat → Int32) → Prop} {v : Int32} (hQ : ∀ F', (∀ k, k < 8 → F' k = v) → Q (va_up I 64 F')) : C_J7_fill_53178_64 e v I L Q := by
  refine b_J7_fill_53178_64 ?_
  have h0 : T_J7_fill_53178_64_p5 e v (nI 0) (nI 8) (va_up I 64 (I 64)) L Q := by
    refine lp_up (n := 8) (S := Nat → Int32) (T := fun k F => T_J7_fill_53178_64_p5 e v (nI k) (nI 8) (va_up I 64 F) L Q) (fun k F => ∀ j, j < k → F j = v) ?_ ?_ 0 (I 64) (Nat.zero_le _) (fun j h => absurd h (Nat.not_lt_zero _))
    · intro k F hk hi hnext
      refine b_J7_fill_53178_64_p5 ?_
      have hnk : (8 ≤ k) = False := eq_false (by omega)
      simp (disch := omega) only [pk_mul, nI_add, ksub, kdv, kd8, kd64, kd2, kd3, km8, km64, kt8, ke8, ke64, kcl, kin, kle, klt, keq, up_s, up_n, up_u, true_and, and_true, false_implies, true_implies, not_false_eq_true, not_true_eq_false, hnk]
      refine hnext _ (fun j hj => ?_)
      by_cases he : j = k
      · rw [he, up_s]
      · rw [up_n he]; exact hi j (by omega)
    · intro F hi
      refine b_J7_fill_53178_64_p5 ?_
      have hnn : (8 ≤ 8) = True := eq_true (Nat.le_refl _)
      simp (disch := omega) only [pk_mul, nI_add, ksub, kdv, kd8, kd64, kd2, kd3, km8, km64, kt8, ke8, ke64, kcl, kin, kle, klt, keq, up_s, up_n, up_u, true_and, and_true, false_implies, true_implies, not_false_eq_true, not_true_eq_false, hnn]
      exact hQ F hi
  rw [up_id] at h0
  exact h0
theorem c_fill_42 {e : am_V} {I : Nat → Nat → Int32} {L : Nat → Nat → Int64} {Q : (Nat → Nat → Int32) → Prop} {v : Int32} (hQ : ∀ F', (∀ k, k < 64 → F' k = v) → Q (va_up I 42 F')) : C_J7_fill_53178_42 e v I L Q := by
  refine b_J7_fill_53178_42 ?_
  have h0 : T_J7_fill_53178_42_p5 e v (nI 0) (nI 64) (va_up I 42 (I 42)) L Q := by
    refine lp_up (n := 64) (S := Nat → Int32) (T := fun k F => T_J7_fill_53178_42_p5 e v (nI k) (nI 64) (va_up I 42 F) L Q) (fun k F => ∀ j, j < k → F j = v) ?_ ?_ 0 (I 42) (Nat.zero_le _) (fun j h => absurd h (Nat.not_lt_zero _))
    · intro k F hk hi hnext
      refine b_J7_fill_53178_42_p5 ?_
      have hnk : (64 ≤ k) = False := eq_false (by omega)
      simp (disch := omega) only [pk_mul, nI_add, ksub, kdv, kd8, kd64, kd2, kd3, km8, km64, kt8, ke8, ke64, kcl, kin, kle, klt, keq, up_s, up_n, up_u, true_and, and_true, false_implies, true_implies, not_false_eq_true, not_true_eq_false, hnk]
      refine hnext _ (fun j hj => ?_)
      by_cases he : j = k
      · rw [he, up_s]
      · rw [up_n he]; exact hi j (by omega)
    · intro F hi
      refine b_J7_fill_53178_42_p5 ?_
      have hnn : (64 ≤ 64) = True := eq_true (Nat.le_refl _)
      simp (disch := omega) only [pk_mul, nI_add, ksub, kdv, kd8, kd64, kd2, kd3, km8, km64, kt8, ke8, ke64, kcl, kin, kle, klt, keq, up_s, up_n, up_u, true_and, and_true, false_implies, true_implies, not_false_eq_true, not_true_eq_false, hnn]
      exact hQ F hi
  rw [up_id] at h0
  exact h0
theorem c_fill_45 {e : am_V} {I : Nat → Nat → Int32} {L : Nat → Nat → Int64} {Q : (Nat → Nat → Int32) → Prop} {v : Int32} (hQ : ∀ F', (∀ k, k < 64 → F' k = v) → Q (va_up I 45 F')) : C_J7_fill_53178_45 e v I L Q := by
  refine b_J7_fill_53178_45 ?_
  have h0 : T_J7_fill_53178_45_p5 e v (nI 0) (nI 64) (va_up I 45 (I 45)) L Q := by
    refine lp_up (n := 64) (S := Nat → Int32) (T := fun k F => T_J7_fill_53178_45_p5 e v (nI k) (nI 64) (va_up I 45 F) L Q) (fun k F => ∀ j, j < k → F j = v) ?_ ?_ 0 (I 45) (Nat.zero_le _) (fun j h => absurd h (Nat.not_lt_zero _))
    · intro k F hk hi hnext
      refine b_J7_fill_53178_45_p5 ?_
      have hnk : (64 ≤ k) = False := eq_false (by omega)
      simp (disch := omega) only [pk_mul, nI_add, ksub, kdv, kd8, kd64, kd2, kd3, km8, km64, kt8, ke8, ke64, kcl, kin, kle, klt, keq, up_s, up_n, up_u, true_and, and_true, false_implies, true_implies, not_false_eq_true, not_true_eq_false, hnk]
      refine hnext _ (fun j hj => ?_)
      by_cases he : j = k
      · rw [he, up_s]
      · rw [up_n he]; exact hi j (by omega)
    · intro F hi
      refine b_J7_fill_53178_45_p5 ?_
      have hnn : (64 ≤ 64) = True := eq_true (Nat.le_refl _)
      simp (disch := omega) only [pk_mul, nI_add, ksub, kdv, kd8, kd64, kd2, kd3, km8, km64, kt8, ke8, ke64, kcl, kin, kle, klt, keq, up_s, up_n, up_u, true_and, and_true, false_implies, true_implies, not_false_eq_true, not_true_eq_false, hnn]
      exact hQ F hi
  rw [up_id] at h0
  exact h0
theorem c_fill_69 {e : am_V} {I : Nat → Nat → Int32} {L : Nat → Nat → Int64} {Q : (Nat → Nat → Int32) → Prop} {v : Int32} (hQ : ∀ F', (∀ k, k < 64 → F' k = v) → Q (va_up I 69 F')) : C_J7_fill_53178_69 e v I L Q := by
  refine b_J7_fill_53178_69 ?_
  have h0 : T_J7_fill_53178_69_p5 e v (nI 0) (nI 64) (va_up I 69 (I 69)) L Q := by
    refine lp_up (n := 64) (S := Nat → Int32) (T := fun k F => T_J7_fill_53178_69_p5 e v (nI k) (nI 64) (va_up I 69 F) L Q) (fun k F => ∀ j, j < k → F j = v) ?_ ?_ 0 (I 69) (Nat.zero_le _) (fun j h => absurd h (Nat.not_lt_zero _))
    · intro k F hk hi hnext
      refine b_J7_fill_53178_69_p5 ?_
      have hnk : (64 ≤ k) = False := eq_false (by omega)
      simp (disch := omega) only [pk_mul, nI_add, ksub, kdv, kd8, kd64, kd2, kd3, km8, km64, kt8, ke8, ke64, kcl, kin, kle, klt, keq, up_s, up_n, up_u, true_and, and_true, false_implies, true_implies, not_false_eq_true, not_true_eq_false, hnk]
      refine hnext _ (fun j hj => ?_)
      by_cases he : j = k
      · rw [he, up_s]
      · rw [up_n he]; exact hi j (by omega)
    · intro F hi
      refine b_J7_fill_53178_69_p5 ?_
      have hnn : (64 ≤ 64) = True := eq_true (Nat.le_refl _)
      simp (disch := omega) only [pk_mul, nI_add, ksub, kdv, kd8, kd64, kd2, kd3, km8, km64, kt8, ke8, ke64, kcl, kin, kle, klt, keq, up_s, up_n, up_u, true_and, and_true, false_implies, true_implies, not_false_eq_true, not_true_eq_false, hnn]
      exact hQ F hi
  rw [up_id] at h0
  exact h0
theorem c_fillz_42 {e : am_V} {I : Nat → Nat → Int32} {L : Nat → Nat → Int64} {Q : (Nat → Nat → Int32) → Prop} (hQ : ∀ F', (∀ k, k < 64 → F' k = nI 0) → Q (va_up I 42 F')) : C_J7_fill_53178_42 e (nI 0) I L Q := c_fill_42 hQ
theorem c_fillz_45 {e : am_V} {I : Nat → Nat → Int32} {L : Nat → Nat → Int64} {Q : (Nat → Nat → Int32) → Prop} (hQ : ∀ F', (∀ k, k < 64 → F' k = nI 0) → Q (va_up I 45 F')) : C_J7_fill_53178_45 e (nI 0) I L Q := c_fill_45 hQ
theorem c_fillz_69 {e : am_V} {I : Nat → Nat → Int32} {L : Nat → Nat → Int64} {Q : (Nat → Nat → Int32) → Prop} (hQ : ∀ F', (∀ k, k < 64 → F' k = nI 0) → Q (va_up I 69 F')) : C_J7_fill_53178_69 e (nI 0) I L Q := c_fill_69 hQ
/-- the rows of a search: rs seen, rq the queue -/
def bfR (rs rq : Nat) (sn : Nat → Bool) (q : Nat → Nat) (z : Nat) (J : Nat → Nat → Int32) : Prop := (∀ a, a < 64 → J rs a = nI (if sn a = true then 1 else 0)) ∧ (∀ i, i < z → J rq i = nI (q i))
theorem bfR_u {rs rq : Nat} {sn : Nat → Bool} {q : Nat → Nat} {z a : Nat} {J : Nat → Nat → Int32} (h : bfR rs rq sn q z J) (hne : rs ≠ rq) : bfR rs rq (va_up sn a true) (va_up q z a) (z + 1) (va_up (va_up J rs (va_up (J rs) a (nI 1))) rq (va_up (J rq) z (nI a))) := by
  refine ⟨fun b hb => ?_, fun i hi => ?_⟩
  · rw [up_n hne, up_s]
    by_cases he : b = a
    · rw [he, up_s, up_s]; rfl
    · rw [up_n he, up_n he]; exact h.1 b hb
  · rw [up_s]
    by_cases he : i = z
    · rw [he, up_s, up_s]
    · rw [up_n he, up_n he]; exact h.2 i (by omega)
theorem if1 {b : Bool} : (nI (if b = true then 1 else 0) = nI 0) = (b = false) := by
  cases b
  · simp
  · simp only [if_true]
    exact propext ⟨fun h => absurd h (by decide), fun h => by cases h⟩
theorem if2 {b : Bool} : (nI (if b = true then 1 else 0) = nI 1) = (b = true) := by
  cases b
  · exact propext ⟨fun h => absurd h (by decide), fun h => by cases h⟩
  · simp
theorem bf1 {b : Bool} (h : ¬ b = true) : b = false := by cases b <;> simp at h ⊢
theorem c_within_10 {e : am_V} {I : Nat → Nat → Int32} {L : Nat → Nat → Int64} {Q : Int32 → (Nat → Nat → Int32) → Prop} {t : tw} {nw : Nat → Nat} {x : Nat} (hC : CT t I) (hk : tok t) (hr : ∀ k, k < 512 → tB t k = true → I 10 k = nI (nw k)) (hw : ∀ k, k < 512 → nw k ≤ 1000) (hx : x < 8) (hQ : ∀ J, fr [41, 42] [] I J → Q (nI (bts (rch (t 1) nw x) 8)) J) : C_X9_within_38_3_10 e (nI x) I L Q := by
  have hrE : ∀ a b, rE (t 1) nw a b → a < 64 ∧ b < 64 := fun a b h => ⟨h.1, h.2.1⟩
  refine b_X9_within_38_3_10 (c_fillz_42 (fun F0 hF0 => ?_))
  have q0 := ksh x hx
  simp (disch := omega) only [pk_mul, nI_add, ksub, kdv, kd8, kd64, kd2, kd3, km8, km64, kt8, ke8, ke64, kcl, kin, kle, klt, keq, up_s, up_n, up_u, true_and, and_true, false_implies, true_implies, not_false_eq_true, not_true_eq_false, q0]
  have f1 : fr [41, 42] [] I (va_up I 42 F0) := fr_up (fr_refl _ _ _) rfl
  have hCt : ∀ J, fr [41, 42] [] I J → CT t J := fun J f => fr_CT f hC rfl
  have hrt : ∀ J, fr [41, 42] [] I J → ∀ k, k < 512 → tB t k = true → J 10 k = nI (nw k) := fun J f k hk5 hp => by rw [f.1 10 (by decide) (by decide)]; exact hr k hk5 hp
  have hln : ∀ y, (nb t y).length ≤ 8 := fun y => by rw [cn_fl]; exact cn_n _ _
  have h62 : ∀ m k z B sn q J, 64 - k = m → k ≤ z → fr [41, 42] [] I J → bfR 42 41 sn q z J → bfs (rS (t 1) x) (rE (t 1) nw) sn q z → (∀ s, rS (t 1) x s → sn s = true) → bfC (rE (t 1) nw) sn q k → (∀ y, B.testBit y = true ↔ (y = x ∨ ∃ i, i < k ∧ q i % 8 = y)) → T_X9_within_38_3_10_p62 e (nI B) (nI z) (nI k) J L Q := by
    intro m
    induction m using Nat.strongRecOn with
    | ind m ih =>
      intro k z B sn q J hm hkz f hR hB hS0 hCl hbt
      have hz := bfs_le hB
      refine b_X9_within_38_3_10_p62 ?_
      by_cases hkz2 : k = z
      · have q1 : (z ≤ k) = True := eq_true (by omega)
        simp (disch := omega) only [pk_mul, nI_add, ksub, kdv, kd8, kd64, kd2, kd3, km8, km64, kt8, ke8, ke64, kcl, kin, kle, klt, keq, up_s, up_n, up_u, true_and, and_true, false_implies, true_implies, not_false_eq_true, not_true_eq_false, q1]
        have hfin : B = bts (rch (t 1) nw x) 8 := by
          refine bts_u (fun y => ?_)
          rw [Bool.eq_iff_iff, Bool.and_eq_true, decide_eq_true_eq, rch_i, hbt]
          have he : ∀ a, a < 64 → (sn a = true ↔ RC (rS (t 1) x) (rE (t 1) nw) a) := fun a ha => bfs_e hB hrE (fun s hs => ⟨hs.1, hS0 s hs⟩) (by rw [← hkz2]; exact hCl) ha
          constructor
          · rintro (h | ⟨i, hi, hq⟩)
            · exact ⟨by omega, Or.inl h⟩
            · have h5 := hB.2.1 i (by omega)
              exact ⟨by omega, Or.inr ⟨q i, h5.1, (he _ h5.1).mp h5.2, hq⟩⟩
          · rintro ⟨_, h | ⟨a, ha, hra, hay⟩⟩
            · exact Or.inl h
            · obtain ⟨i, hi, hq⟩ := hB.2.2.1 a ha ((he a ha).mpr hra)
              exact Or.inr ⟨i, by omega, by rw [hq]; exact hay⟩
        rw [hfin]
        exact hQ J f
      · have q1 : (z ≤ k) = False := eq_false (by omega)
        have q2 : (64 ≤ k) = False := eq_false (by omega)
        have e41 := hR.2 k (by omega)
        have hqk := hB.2.1 k (by omega)
        obtain ⟨hq64, hqs⟩ := hqk
        have q3 := ksh (q k % 8) (by omega)
        simp (disch := omega) only [pk_mul, nI_add, ksub, kdv, kd8, kd64, kd2, kd3, km8, km64, kt8, ke8, ke64, kcl, kin, kle, klt, keq, up_s, up_n, up_u, true_and, and_true, false_implies, true_implies, not_false_eq_true, not_true_eq_false, q1, q2, e41, q3, fa_or]
        have hCJ := hCt J f
        have hstart : ∀ y, (B ||| 2 ^ (q k % 8)).testBit y = true ↔ (y = x ∨ ∃ i, i < k + 1 ∧ q i % 8 = y) := by
          intro y
          rw [Nat.testBit_or, Bool.or_eq_true, hbt, Nat.testBit_two_pow, decide_eq_true_eq]
          constructor
          · rintro ((h | ⟨i, hi, hq⟩) | h)
            · exact Or.inl h
            · exact Or.inr ⟨i, by omega, hq⟩
            · exact Or.inr ⟨k, by omega, h⟩
          · rintro (h | ⟨i, hi, hq⟩)
            · exact Or.inl (Or.inl h)
            · by_cases hik : i = k
              · rw [hik] at hq; exact Or.inr hq
              · exact Or.inl (Or.inr ⟨i, by omega, hq⟩)
        refine lp_fl (l := nb t (q k % 8)) rfl (N := 8) (p := nbp t (q k % 8)) (S := Nat × (Nat → Bool) × (Nat → Nat) × (Nat → Nat → Int32)) (T := fun i s => T_X9_within_38_3_10_p100 e (nI (B ||| 2 ^ (q k % 8))) (nI s.1) (nI k) (nI (q k % 8)) (nI i) s.2.2.2 L Q) (fun y s => k < s.1 ∧ fr [41, 42] [] I s.2.2.2 ∧ bfR 42 41 s.2.1 s.2.2.1 s.1 s.2.2.2 ∧ bfs (rS (t 1) x) (rE (t 1) nw) s.2.1 s.2.2.1 s.1 ∧ (∀ a, sn a = true → s.2.1 a = true) ∧ (∀ i, i ≤ k → s.2.2.1 i = q i) ∧ (∀ y', y' < y → 0 < t 1 (8 * (q k % 8) + y') → 0 < nw (8 * q k + y') → s.2.1 (8 * (q k % 8) + y') = true)) ?_ ?_ ?_ (z, sn, q, J) ⟨by show k < z; omega, f, hR, hB, fun _ h => h, fun _ _ => rfl, fun y' h => absurd h (Nat.not_lt_zero _)⟩
        · rintro y ⟨z1, sn1, q1', J1⟩ hy hp ⟨i1, i2, i3, i4, i5, i6, i7⟩
          refine ⟨i1, i2, i3, i4, i5, i6, fun y' hy' h1 h2 => ?_⟩
          by_cases he : y' = y
          · rw [he] at h1
            unfold nbp at hp
            rw [decide_eq_true h1] at hp
            cases hp
          · exact i7 y' (by omega) h1 h2
        · rintro y i ⟨z1, sn1, q1', J1⟩ hy hp hi hiy ⟨i1, i2, i3, i4, i5, i6, i7⟩ hnext
          change k < z1 at i1
          have hsy : 0 < t 1 (8 * (q k % 8) + y) := by unfold nbp at hp; simpa using hp
          have hz1 := bfs_le i4
          change z1 ≤ 64 at hz1
          have hC1 := hCt _ i2
          change CT t J1 at hC1
          have hr1 := hrt _ i2
          change ∀ k, k < 512 → tB t k = true → J1 10 k = nI (nw k) at hr1
          obtain ⟨c0, c1, c2, c3, c4, c5, c6, c7, c8, cS, cD, cN, cA, cT, cM, cR, cF, cO, cH, cL⟩ := hC1
          have e5 := cD (q k % 8) (by omega)
          have e6 := cN (q k % 8) (by omega) i hi
          rw [hiy] at e6
          have e41k : J1 41 k = nI (q k) := by
            have h5 := i3.2 k i1
            change J1 41 k = nI (q1' k) at h5
            rw [h5, show q1' k = q k from i6 k (Nat.le_refl _)]
          have hlni := hln (q k % 8)
          have g1 : ((nb t (q k % 8)).length ≤ i) = False := eq_false (by omega)
          have hstq : 0 < t 1 (q k) := by
            have h5 := hB.2.2.2 (q k) hq64 hqs
            have h6 := h5 (fun a => 0 < t 1 a) (fun s hs => hs.2.2) (fun a b _ he => he.2.2.2.2.1)
            exact h6
          have hT : tB t (8 * q k + y) = true := by
            rw [tB_i, show (8 * q k + y) / 8 = q k from by omega, show (8 * q k + y) % 64 = 8 * (q k % 8) + y from by omega]
            exact ⟨hstq, hsy⟩
          have er := hr1 (8 * q k + y) (by omega) hT
          have bd4 := hw (8 * q k + y) (by omega)
          have e42 := i3.1 (8 * (q k % 8) + y) (by omega)
          change J1 42 (8 * (q k % 8) + y) = nI (if sn1 (8 * (q k % 8) + y) = true then 1 else 0) at e42
          have q4 : (8 * q k + y) % 64 = 8 * (q k % 8) + y := by omega
          refine b_X9_within_38_3_10_p100 ?_
          simp (disch := omega) only [pk_mul, nI_add, ksub, kdv, kd8, kd64, kd2, kd3, km8, km64, kt8, ke8, ke64, kcl, kin, kle, klt, keq, up_s, up_n, up_u, true_and, and_true, false_implies, true_implies, not_false_eq_true, not_true_eq_false, e5, e6, g1, e41k, er, q4, e42, if2]
          refine ⟨fun h0 => hnext (z1, sn1, q1', J1) ⟨i1, i2, i3, i4, i5, i6, fun y' hy' h1 h2 => ?_⟩, fun h0 => ⟨fun hsn => hnext (z1, sn1, q1', J1) ⟨i1, i2, i3, i4, i5, i6, fun y' hy' h1 h2 => ?_⟩, fun hst => have hsn := bf1 hst; ⟨fun hz64 => ?_, fun hz64 => ?_⟩⟩⟩
          · by_cases he : y' = y
            · rw [he] at h2; omega
            · exact i7 y' (by omega) h1 h2
          · by_cases he : y' = y
            · rw [he]
              exact hsn
            · exact i7 y' (by omega) h1 h2
          · have hrc : RC (rS (t 1) x) (rE (t 1) nw) (8 * (q k % 8) + y) := by
              refine RC_1 (hB.2.2.2 (q k) hq64 hqs) ⟨hq64, by omega, by omega, hstq, hsy, ?_⟩
              rw [show (8 * (q k % 8) + y) % 8 = y from by omega]
              omega
            refine ⟨vp_in_nI hz64 (by decide), hnext (z1 + 1, va_up sn1 (8 * (q k % 8) + y) true, va_up q1' z1 (8 * (q k % 8) + y), _) ⟨by show k < z1 + 1; omega, fr_up (fr_up i2 rfl) rfl, bfR_u i3 (by decide), bfs_u i4 (by omega) hsn hrc, fun a ha => ?_, fun j hj => ?_, fun y' hy' h1 h2 => ?_⟩⟩
            · show va_up sn1 _ true a = true
              by_cases he : a = 8 * (q k % 8) + y
              · rw [he, up_s]
              · rw [up_n he]; exact i5 a ha
            · show va_up q1' z1 _ j = q j
              rw [up_n (by omega)]; exact i6 j hj
            · show va_up sn1 _ true _ = true
              by_cases he : y' = y
              · rw [he, up_s]
              · rw [up_n (by omega)]; exact i7 y' (by omega) h1 h2
          · exact absurd (bfs_lt i4 (by omega) hsn) hz64
        · rintro ⟨z1, sn1, q1', J1⟩ ⟨i1, i2, i3, i4, i5, i6, i7⟩
          change k < z1 at i1
          have hC1 := hCt _ i2
          change CT t J1 at hC1
          obtain ⟨c0, c1, c2, c3, c4, c5, c6, c7, c8, cS, cD, cN, cA, cT, cM, cR, cF, cO, cH, cL⟩ := hC1
          have e5 := cD (q k % 8) (by omega)
          have hlni := hln (q k % 8)
          have g1 : ((nb t (q k % 8)).length ≤ (nb t (q k % 8)).length) = True := eq_true (Nat.le_refl _)
          refine b_X9_within_38_3_10_p100 ?_
          simp (disch := omega) only [pk_mul, nI_add, ksub, kdv, kd8, kd64, kd2, kd3, km8, km64, kt8, ke8, ke64, kcl, kin, kle, klt, keq, up_s, up_n, up_u, true_and, and_true, false_implies, true_implies, not_false_eq_true, not_true_eq_false, e5, g1]
          refine ih (64 - (k + 1)) (by omega) (k + 1) z1 (B ||| 2 ^ (q k % 8)) sn1 q1' J1 rfl (by omega) i2 i3 i4 (fun s hs => i5 s (hS0 s hs)) (fun i hi b hb => ?_) (fun y => ?_)
          · change rE (t 1) nw (q1' i) b at hb
            rw [show q1' i = q i from i6 i (by omega)] at hb
            by_cases hik : i = k
            · rw [hik] at hb
              obtain ⟨b1, b2, b3, b4, b5, b6⟩ := hb
              have h5 := i7 (b % 8) (by omega)
              rw [show 8 * (q k % 8) + b % 8 = b from by omega] at h5
              exact h5 b5 b6
            · exact i5 b (hCl i (by omega) b hb)
          · rw [hstart]
            constructor
            · rintro (h | ⟨i, hi, hq⟩)
              · exact Or.inl h
              · exact Or.inr ⟨i, hi, by rw [show q1' i = q i from i6 i (by omega)]; exact hq⟩
            · rintro (h | ⟨i, hi, hq⟩)
              · exact Or.inl h
              · exact Or.inr ⟨i, hi, by rw [show q1' i = q i from i6 i (by omega)] at hq; exact hq⟩
  refine lp_fl (l := nb t x) rfl (N := 8) (p := nbp t x) (S := Nat × (Nat → Bool) × (Nat → Nat) × (Nat → Nat → Int32)) (T := fun i s => T_X9_within_38_3_10_p19 e (nI x) (nI (2 ^ x)) (nI s.1) (nI i) s.2.2.2 L Q) (fun y s => fr [41, 42] [] I s.2.2.2 ∧ bfR 42 41 s.2.1 s.2.2.1 s.1 s.2.2.2 ∧ bfs (rS (t 1) x) (rE (t 1) nw) s.2.1 s.2.2.1 s.1 ∧ (∀ y', y' < y → 0 < t 1 (8 * x + y') → s.2.1 (8 * x + y') = true)) ?_ ?_ ?_ (0, fun _ => false, fun _ => 0, va_up I 42 F0) ⟨f1, ⟨fun a ha => hF0 a ha, fun i h => absurd h (Nat.not_lt_zero _)⟩, bfs_0 _ _ _, fun y' h => absurd h (Nat.not_lt_zero _)⟩
  · rintro y ⟨z1, sn1, q1', J1⟩ hy hp ⟨i2, i3, i4, i7⟩
    refine ⟨i2, i3, i4, fun y' hy' h1 => ?_⟩
    by_cases he : y' = y
    · rw [he] at h1
      unfold nbp at hp
      rw [decide_eq_true h1] at hp
      cases hp
    · exact i7 y' (by omega) h1
  · rintro y i ⟨z1, sn1, q1', J1⟩ hy hp hi hiy ⟨i2, i3, i4, i7⟩ hnext
    have hsy : 0 < t 1 (8 * x + y) := by unfold nbp at hp; simpa using hp
    have hz1 := bfs_le i4
    change z1 ≤ 64 at hz1
    have hC1 := hCt _ i2
    change CT t J1 at hC1
    obtain ⟨c0, c1, c2, c3, c4, c5, c6, c7, c8, cS, cD, cN, cA, cT, cM, cR, cF, cO, cH, cL⟩ := hC1
    have e5 := cD x hx
    have e6 := cN x hx i hi
    rw [hiy] at e6
    have hlni := hln x
    have g1 : ((nb t x).length ≤ i) = False := eq_false (by omega)
    have e42 := i3.1 (8 * x + y) (by omega)
    change J1 42 (8 * x + y) = nI (if sn1 (8 * x + y) = true then 1 else 0) at e42
    refine b_X9_within_38_3_10_p19 ?_
    simp (disch := omega) only [pk_mul, nI_add, ksub, kdv, kd8, kd64, kd2, kd3, km8, km64, kt8, ke8, ke64, kcl, kin, kle, klt, keq, up_s, up_n, up_u, true_and, and_true, false_implies, true_implies, not_false_eq_true, not_true_eq_false, e5, e6, g1, e42, if2]
    refine ⟨fun hsn => hnext (z1, sn1, q1', J1) ⟨i2, i3, i4, fun y' hy' h1 => ?_⟩, fun hst => have hsn := bf1 hst; ⟨fun hz64 => ?_, fun hz64 => ?_⟩⟩
    · by_cases he : y' = y
      · rw [he]
        exact hsn
      · exact i7 y' (by omega) h1
    · refine ⟨vp_in_nI hz64 (by decide), hnext (z1 + 1, va_up sn1 (8 * x + y) true, va_up q1' z1 (8 * x + y), _) ⟨fr_up (fr_up i2 rfl) rfl, bfR_u i3 (by decide), bfs_u i4 (by omega) hsn (RC_0 ⟨by omega, by omega, hsy⟩), fun y' hy' h1 => ?_⟩⟩
      show va_up sn1 _ true _ = true
      by_cases he : y' = y
      · rw [he, up_s]
      · rw [up_n (by omega)]; exact i7 y' (by omega) h1
    · exact absurd (bfs_lt i4 (by omega) hsn) hz64
  · rintro ⟨z1, sn1, q1', J1⟩ ⟨i2, i3, i4, i7⟩
    have hC1 := hCt _ i2
    change CT t J1 at hC1
    obtain ⟨c0, c1, c2, c3, c4, c5, c6, c7, c8, cS, cD, cN, cA, cT, cM, cR, cF, cO, cH, cL⟩ := hC1
    have e5 := cD x hx
    have hlni := hln x
    have g1 : ((nb t x).length ≤ (nb t x).length) = True := eq_true (Nat.le_refl _)
    refine b_X9_within_38_3_10_p19 ?_
    simp (disch := omega) only [pk_mul, nI_add, ksub, kdv, kd8, kd64, kd2, kd3, km8, km64, kt8, ke8, ke64, kcl, kin, kle, klt, keq, up_s, up_n, up_u, true_and, and_true, false_implies, true_implies, not_false_eq_true, not_true_eq_false, e5, g1]
    refine h62 _ 0 z1 (2 ^ x) sn1 q1' J1 rfl (Nat.zero_le _) i2 i3 i4 (fun s hs => ?_) (fun i h => absurd h (Nat.not_lt_zero _)) (fun y => ?_)
    · obtain ⟨s1, s2, s3⟩ := hs
      have h5 := i7 (s % 8) (by omega)
      rw [show 8 * x + s % 8 = s from by omega] at h5
      exact h5 s3
    · rw [Nat.testBit_two_pow, decide_eq_true_eq]
      constructor
      · intro h; exact Or.inl h.symm
      · rintro (h | ⟨i, hi, _⟩)
        · exact h.symm
        · omega
theorem c_within_2 {e : am_V} {I : Nat → Nat → Int32} {L : Nat → Nat → Int64} {Q : Int32 → (Nat → Nat → Int32) → Prop} {t : tw} {nw : Nat → Nat} {x : Nat} (hC : CT t I) (hk : tok t) (hr : ∀ k, k < 512 → tB t k = true → I 2 k = nI (nw k)) (hw : ∀ k, k < 512 → nw k ≤ 1000) (hx : x < 8) (hQ : ∀ J, fr [41, 42] [] I J → Q (nI (bts (rch (t 1) nw x) 8)) J) : C_X9_within_38_3_2 e (nI x) I L Q := by
  have hrE : ∀ a b, rE (t 1) nw a b → a < 64 ∧ b < 64 := fun a b h => ⟨h.1, h.2.1⟩
  refine b_X9_within_38_3_2 (c_fillz_42 (fun F0 hF0 => ?_))
  have q0 := ksh x hx
  simp (disch := omega) only [pk_mul, nI_add, ksub, kdv, kd8, kd64, kd2, kd3, km8, km64, kt8, ke8, ke64, kcl, kin, kle, klt, keq, up_s, up_n, up_u, true_and, and_true, false_implies, true_implies, not_false_eq_true, not_true_eq_false, q0]
  have f1 : fr [41, 42] [] I (va_up I 42 F0) := fr_up (fr_refl _ _ _) rfl
  have hCt : ∀ J, fr [41, 42] [] I J → CT t J := fun J f => fr_CT f hC rfl
  have hrt : ∀ J, fr [41, 42] [] I J → ∀ k, k < 512 → tB t k = true → J 2 k = nI (nw k) := fun J f k hk5 hp => by rw [f.1 2 (by decide) (by decide)]; exact hr k hk5 hp
  have hln : ∀ y, (nb t y).length ≤ 8 := fun y => by rw [cn_fl]; exact cn_n _ _
  have h62 : ∀ m k z B sn q J, 64 - k = m → k ≤ z → fr [41, 42] [] I J → bfR 42 41 sn q z J → bfs (rS (t 1) x) (rE (t 1) nw) sn q z → (∀ s, rS (t 1) x s → sn s = true) → bfC (rE (t 1) nw) sn q k → (∀ y, B.testBit y = true ↔ (y = x ∨ ∃ i, i < k ∧ q i % 8 = y)) → T_X9_within_38_3_2_p62 e (nI B) (nI z) (nI k) J L Q := by
    intro m
    induction m using Nat.strongRecOn with
    | ind m ih =>
      intro k z B sn q J hm hkz f hR hB hS0 hCl hbt
      have hz := bfs_le hB
      refine b_X9_within_38_3_2_p62 ?_
      by_cases hkz2 : k = z
      · have q1 : (z ≤ k) = True := eq_true (by omega)
        simp (disch := omega) only [pk_mul, nI_add, ksub, kdv, kd8, kd64, kd2, kd3, km8, km64, kt8, ke8, ke64, kcl, kin, kle, klt, keq, up_s, up_n, up_u, true_and, and_true, false_implies, true_implies, not_false_eq_true, not_true_eq_false, q1]
        have hfin : B = bts (rch (t 1) nw x) 8 := by
          refine bts_u (fun y => ?_)
          rw [Bool.eq_iff_iff, Bool.and_eq_true, decide_eq_true_eq, rch_i, hbt]
          have he : ∀ a, a < 64 → (sn a = true ↔ RC (rS (t 1) x) (rE (t 1) nw) a) := fun a ha => bfs_e hB hrE (fun s hs => ⟨hs.1, hS0 s hs⟩) (by rw [← hkz2]; exact hCl) ha
          constructor
          · rintro (h | ⟨i, hi, hq⟩)
            · exact ⟨by omega, Or.inl h⟩
            · have h5 := hB.2.1 i (by omega)
              exact ⟨by omega, Or.inr ⟨q i, h5.1, (he _ h5.1).mp h5.2, hq⟩⟩
          · rintro ⟨_, h | ⟨a, ha, hra, hay⟩⟩
            · exact Or.inl h
            · obtain ⟨i, hi, hq⟩ := hB.2.2.1 a ha ((he a ha).mpr hra)
              exact Or.inr ⟨i, by omega, by rw [hq]; exact hay⟩
        rw [hfin]
        exact hQ J f
      · have q1 : (z ≤ k) = False := eq_false (by omega)
        have q2 : (64 ≤ k) = False := eq_false (by omega)
        have e41 := hR.2 k (by omega)
        have hqk := hB.2.1 k (by omega)
        obtain ⟨hq64, hqs⟩ := hqk
        have q3 := ksh (q k % 8) (by omega)
        simp (disch := omega) only [pk_mul, nI_add, ksub, kdv, kd8, kd64, kd2, kd3, km8, km64, kt8, ke8, ke64, kcl, kin, kle, klt, keq, up_s, up_n, up_u, true_and, and_true, false_implies, true_implies, not_false_eq_true, not_true_eq_false, q1, q2, e41, q3, fa_or]
        have hCJ := hCt J f
        have hstart : ∀ y, (B ||| 2 ^ (q k % 8)).testBit y = true ↔ (y = x ∨ ∃ i, i < k + 1 ∧ q i % 8 = y) := by
          intro y
          rw [Nat.testBit_or, Bool.or_eq_true, hbt, Nat.testBit_two_pow, decide_eq_true_eq]
          constructor
          · rintro ((h | ⟨i, hi, hq⟩) | h)
            · exact Or.inl h
            · exact Or.inr ⟨i, by omega, hq⟩
            · exact Or.inr ⟨k, by omega, h⟩
          · rintro (h | ⟨i, hi, hq⟩)
            · exact Or.inl (Or.inl h)
            · by_cases hik : i = k
              · rw [hik] at hq; exact Or.inr hq
              · exact Or.inl (Or.inr ⟨i, by omega, hq⟩)
        refine lp_fl (l := nb t (q k % 8)) rfl (N := 8) (p := nbp t (q k % 8)) (S := Nat × (Nat → Bool) × (Nat → Nat) × (Nat → Nat → Int32)) (T := fun i s => T_X9_within_38_3_2_p100 e (nI (B ||| 2 ^ (q k % 8))) (nI s.1) (nI k) (nI (q k % 8)) (nI i) s.2.2.2 L Q) (fun y s => k < s.1 ∧ fr [41, 42] [] I s.2.2.2 ∧ bfR 42 41 s.2.1 s.2.2.1 s.1 s.2.2.2 ∧ bfs (rS (t 1) x) (rE (t 1) nw) s.2.1 s.2.2.1 s.1 ∧ (∀ a, sn a = true → s.2.1 a = true) ∧ (∀ i, i ≤ k → s.2.2.1 i = q i) ∧ (∀ y', y' < y → 0 < t 1 (8 * (q k % 8) + y') → 0 < nw (8 * q k + y') → s.2.1 (8 * (q k % 8) + y') = true)) ?_ ?_ ?_ (z, sn, q, J) ⟨by show k < z; omega, f, hR, hB, fun _ h => h, fun _ _ => rfl, fun y' h => absurd h (Nat.not_lt_zero _)⟩
        · rintro y ⟨z1, sn1, q1', J1⟩ hy hp ⟨i1, i2, i3, i4, i5, i6, i7⟩
          refine ⟨i1, i2, i3, i4, i5, i6, fun y' hy' h1 h2 => ?_⟩
          by_cases he : y' = y
          · rw [he] at h1
            unfold nbp at hp
            rw [decide_eq_true h1] at hp
            cases hp
          · exact i7 y' (by omega) h1 h2
        · rintro y i ⟨z1, sn1, q1', J1⟩ hy hp hi hiy ⟨i1, i2, i3, i4, i5, i6, i7⟩ hnext
          change k < z1 at i1
          have hsy : 0 < t 1 (8 * (q k % 8) + y) := by unfold nbp at hp; simpa using hp
          have hz1 := bfs_le i4
          change z1 ≤ 64 at hz1
          have hC1 := hCt _ i2
          change CT t J1 at hC1
          have hr1 := hrt _ i2
          change ∀ k, k < 512 → tB t k = true → J1 2 k = nI (nw k) at hr1
          obtain ⟨c0, c1, c2, c3, c4, c5, c6, c7, c8, cS, cD, cN, cA, cT, cM, cR, cF, cO, cH, cL⟩ := hC1
          have e5 := cD (q k % 8) (by omega)
          have e6 := cN (q k % 8) (by omega) i hi
          rw [hiy] at e6
          have e41k : J1 41 k = nI (q k) := by
            have h5 := i3.2 k i1
            change J1 41 k = nI (q1' k) at h5
            rw [h5, show q1' k = q k from i6 k (Nat.le_refl _)]
          have hlni := hln (q k % 8)
          have g1 : ((nb t (q k % 8)).length ≤ i) = False := eq_false (by omega)
          have hstq : 0 < t 1 (q k) := by
            have h5 := hB.2.2.2 (q k) hq64 hqs
            have h6 := h5 (fun a => 0 < t 1 a) (fun s hs => hs.2.2) (fun a b _ he => he.2.2.2.2.1)
            exact h6
          have hT : tB t (8 * q k + y) = true := by
            rw [tB_i, show (8 * q k + y) / 8 = q k from by omega, show (8 * q k + y) % 64 = 8 * (q k % 8) + y from by omega]
            exact ⟨hstq, hsy⟩
          have er := hr1 (8 * q k + y) (by omega) hT
          have bd4 := hw (8 * q k + y) (by omega)
          have e42 := i3.1 (8 * (q k % 8) + y) (by omega)
          change J1 42 (8 * (q k % 8) + y) = nI (if sn1 (8 * (q k % 8) + y) = true then 1 else 0) at e42
          have q4 : (8 * q k + y) % 64 = 8 * (q k % 8) + y := by omega
          refine b_X9_within_38_3_2_p100 ?_
          simp (disch := omega) only [pk_mul, nI_add, ksub, kdv, kd8, kd64, kd2, kd3, km8, km64, kt8, ke8, ke64, kcl, kin, kle, klt, keq, up_s, up_n, up_u, true_and, and_true, false_implies, true_implies, not_false_eq_true, not_true_eq_false, e5, e6, g1, e41k, er, q4, e42, if2]
          refine ⟨fun h0 => hnext (z1, sn1, q1', J1) ⟨i1, i2, i3, i4, i5, i6, fun y' hy' h1 h2 => ?_⟩, fun h0 => ⟨fun hsn => hnext (z1, sn1, q1', J1) ⟨i1, i2, i3, i4, i5, i6, fun y' hy' h1 h2 => ?_⟩, fun hst => have hsn := bf1 hst; ⟨fun hz64 => ?_, fun hz64 => ?_⟩⟩⟩
          · by_cases he : y' = y
            · rw [he] at h2; omega
            · exact i7 y' (by omega) h1 h2
          · by_cases he : y' = y
            · rw [he]
              exact hsn
            · exact i7 y' (by omega) h1 h2
          · have hrc : RC (rS (t 1) x) (rE (t 1) nw) (8 * (q k % 8) + y) := by
              refine RC_1 (hB.2.2.2 (q k) hq64 hqs) ⟨hq64, by omega, by omega, hstq, hsy, ?_⟩
              rw [show (8 * (q k % 8) + y) % 8 = y from by omega]
              omega
            refine ⟨vp_in_nI hz64 (by decide), hnext (z1 + 1, va_up sn1 (8 * (q k % 8) + y) true, va_up q1' z1 (8 * (q k % 8) + y), _) ⟨by show k < z1 + 1; omega, fr_up (fr_up i2 rfl) rfl, bfR_u i3 (by decide), bfs_u i4 (by omega) hsn hrc, fun a ha => ?_, fun j hj => ?_, fun y' hy' h1 h2 => ?_⟩⟩
            · show va_up sn1 _ true a = true
              by_cases he : a = 8 * (q k % 8) + y
              · rw [he, up_s]
              · rw [up_n he]; exact i5 a ha
            · show va_up q1' z1 _ j = q j
              rw [up_n (by omega)]; exact i6 j hj
            · show va_up sn1 _ true _ = true
              by_cases he : y' = y
              · rw [he, up_s]
              · rw [up_n (by omega)]; exact i7 y' (by omega) h1 h2
          · exact absurd (bfs_lt i4 (by omega) hsn) hz64
        · rintro ⟨z1, sn1, q1', J1⟩ ⟨i1, i2, i3, i4, i5, i6, i7⟩
          change k < z1 at i1
          have hC1 := hCt _ i2
          change CT t J1 at hC1
          obtain ⟨c0, c1, c2, c3, c4, c5, c6, c7, c8, cS, cD, cN, cA, cT, cM, cR, cF, cO, cH, cL⟩ := hC1
          have e5 := cD (q k % 8) (by omega)
          have hlni := hln (q k % 8)
          have g1 : ((nb t (q k % 8)).length ≤ (nb t (q k % 8)).length) = True := eq_true (Nat.le_refl _)
          refine b_X9_within_38_3_2_p100 ?_
          simp (disch := omega) only [pk_mul, nI_add, ksub, kdv, kd8, kd64, kd2, kd3, km8, km64, kt8, ke8, ke64, kcl, kin, kle, klt, keq, up_s, up_n, up_u, true_and, and_true, false_implies, true_implies, not_false_eq_true, not_true_eq_false, e5, g1]
          refine ih (64 - (k + 1)) (by omega) (k + 1) z1 (B ||| 2 ^ (q k % 8)) sn1 q1' J1 rfl (by omega) i2 i3 i4 (fun s hs => i5 s (hS0 s hs)) (fun i hi b hb => ?_) (fun y => ?_)
          · change rE (t 1) nw (q1' i) b at hb
            rw [show q1' i = q i from i6 i (by omega)] at hb
            by_cases hik : i = k
            · rw [hik] at hb
              obtain ⟨b1, b2, b3, b4, b5, b6⟩ := hb
              have h5 := i7 (b % 8) (by omega)
              rw [show 8 * (q k % 8) + b % 8 = b from by omega] at h5
              exact h5 b5 b6
            · exact i5 b (hCl i (by omega) b hb)
          · rw [hstart]
            constructor
            · rintro (h | ⟨i, hi, hq⟩)
              · exact Or.inl h
              · exact Or.inr ⟨i, hi, by rw [show q1' i = q i from i6 i (by omega)]; exact hq⟩
            · rintro (h | ⟨i, hi, hq⟩)
              · exact Or.inl h
              · exact Or.inr ⟨i, hi, by rw [show q1' i = q i from i6 i (by omega)] at hq; exact hq⟩
  refine lp_fl (l := nb t x) rfl (N := 8) (p := nbp t x) (S := Nat × (Nat → Bool) × (Nat → Nat) × (Nat → Nat → Int32)) (T := fun i s => T_X9_within_38_3_2_p19 e (nI x) (nI (2 ^ x)) (nI s.1) (nI i) s.2.2.2 L Q) (fun y s => fr [41, 42] [] I s.2.2.2 ∧ bfR 42 41 s.2.1 s.2.2.1 s.1 s.2.2.2 ∧ bfs (rS (t 1) x) (rE (t 1) nw) s.2.1 s.2.2.1 s.1 ∧ (∀ y', y' < y → 0 < t 1 (8 * x + y') → s.2.1 (8 * x + y') = true)) ?_ ?_ ?_ (0, fun _ => false, fun _ => 0, va_up I 42 F0) ⟨f1, ⟨fun a ha => hF0 a ha, fun i h => absurd h (Nat.not_lt_zero _)⟩, bfs_0 _ _ _, fun y' h => absurd h (Nat.not_lt_zero _)⟩
  · rintro y ⟨z1, sn1, q1', J1⟩ hy hp ⟨i2, i3, i4, i7⟩
    refine ⟨i2, i3, i4, fun y' hy' h1 => ?_⟩
    by_cases he : y' = y
    · rw [he] at h1
      unfold nbp at hp
      rw [decide_eq_true h1] at hp
      cases hp
    · exact i7 y' (by omega) h1
  · rintro y i ⟨z1, sn1, q1', J1⟩ hy hp hi hiy ⟨i2, i3, i4, i7⟩ hnext
    have hsy : 0 < t 1 (8 * x + y) := by unfold nbp at hp; simpa using hp
    have hz1 := bfs_le i4
    change z1 ≤ 64 at hz1
    have hC1 := hCt _ i2
    change CT t J1 at hC1
    obtain ⟨c0, c1, c2, c3, c4, c5, c6, c7, c8, cS, cD, cN, cA, cT, cM, cR, cF, cO, cH, cL⟩ := hC1
    have e5 := cD x hx
    have e6 := cN x hx i hi
    rw [hiy] at e6
    have hlni := hln x
    have g1 : ((nb t x).length ≤ i) = False := eq_false (by omega)
    have e42 := i3.1 (8 * x + y) (by omega)
    change J1 42 (8 * x + y) = nI (if sn1 (8 * x + y) = true then 1 else 0) at e42
    refine b_X9_within_38_3_2_p19 ?_
    simp (disch := omega) only [pk_mul, nI_add, ksub, kdv, kd8, kd64, kd2, kd3, km8, km64, kt8, ke8, ke64, kcl, kin, kle, klt, keq, up_s, up_n, up_u, true_and, and_true, false_implies, true_implies, not_false_eq_true, not_true_eq_false, e5, e6, g1, e42, if2]
    refine ⟨fun hsn => hnext (z1, sn1, q1', J1) ⟨i2, i3, i4, fun y' hy' h1 => ?_⟩, fun hst => have hsn := bf1 hst; ⟨fun hz64 => ?_, fun hz64 => ?_⟩⟩
    · by_cases he : y' = y
      · rw [he]
        exact hsn
      · exact i7 y' (by omega) h1
    · refine ⟨vp_in_nI hz64 (by decide), hnext (z1 + 1, va_up sn1 (8 * x + y) true, va_up q1' z1 (8 * x + y), _) ⟨fr_up (fr_up i2 rfl) rfl, bfR_u i3 (by decide), bfs_u i4 (by omega) hsn (RC_0 ⟨by omega, by omega, hsy⟩), fun y' hy' h1 => ?_⟩⟩
      show va_up sn1 _ true _ = true
      by_cases he : y' = y
      · rw [he, up_s]
      · rw [up_n (by omega)]; exact i7 y' (by omega) h1
    · exact absurd (bfs_lt i4 (by omega) hsn) hz64
  · rintro ⟨z1, sn1, q1', J1⟩ ⟨i2, i3, i4, i7⟩
    have hC1 := hCt _ i2
    change CT t J1 at hC1
    obtain ⟨c0, c1, c2, c3, c4, c5, c6, c7, c8, cS, cD, cN, cA, cT, cM, cR, cF, cO, cH, cL⟩ := hC1
    have e5 := cD x hx
    have hlni := hln x
    have g1 : ((nb t x).length ≤ (nb t x).length) = True := eq_true (Nat.le_refl _)
    refine b_X9_within_38_3_2_p19 ?_
    simp (disch := omega) only [pk_mul, nI_add, ksub, kdv, kd8, kd64, kd2, kd3, km8, km64, kt8, ke8, ke64, kcl, kin, kle, klt, keq, up_s, up_n, up_u, true_and, and_true, false_implies, true_implies, not_false_eq_true, not_true_eq_false, e5, g1]
    refine h62 _ 0 z1 (2 ^ x) sn1 q1' J1 rfl (Nat.zero_le _) i2 i3 i4 (fun s hs => ?_) (fun i h => absurd h (Nat.not_lt_zero _)) (fun y => ?_)
    · obtain ⟨s1, s2, s3⟩ := hs
      have h5 := i7 (s % 8) (by omega)
      rw [show 8 * x + s % 8 = s from by omega] at h5
      exact h5 s3
    · rw [Nat.testBit_two_pow, decide_eq_true_eq]
      constructor
      · intro h; exact Or.inl h.symm
      · rintro (h | ⟨i, hi, _⟩)
        · exact h.symm
        · omega
