/-! the turns of a way; uses that are spent on it -/
def wT (R : Nat → Nat) (j : Nat) : Nat := 64 * R j + 8 * R (j + 1) + R (j + 2)
def onW (R : Nat → Nat) (k : Nat) : Nat → Bool
  | 0 => false
  | j + 1 => onW R k j || decide (wT R j = k)
def spd (f : Nat → Nat) (nw R : Nat → Nat) (m k : Nat) : Nat := if onW R k m = true then f (nw k) else nw k
theorem onW_i {R : Nat → Nat} {k m : Nat} : onW R k m = true ↔ ∃ j, j < m ∧ wT R j = k := by
  induction m with
  | zero => exact ⟨(fun h => by cases h), (fun ⟨j, hj, _⟩ => by omega)⟩
  | succ m ih =>
    show (onW R k m || decide (wT R m = k)) = true ↔ _
    rw [Bool.or_eq_true, ih, decide_eq_true_eq]
    constructor
    · rintro (⟨j, hj, h⟩ | h)
      · exact ⟨j, by omega, h⟩
      · exact ⟨m, by omega, h⟩
    · rintro ⟨j, hj, h⟩
      by_cases he : j = m
      · rw [he] at h; exact Or.inr h
      · exact Or.inl ⟨j, by omega, h⟩
def wayok (st R : Nat → Nat) (m : Nat) : Prop := (∀ j, R j < 8) ∧ (∀ j, j < m → 0 < st (8 * R j + R (j + 1)) ∧ 0 < st (8 * R (j + 1) + R (j + 2))) ∧ (∀ i j, i < j → j < m → wT R i ≠ wT R j)
theorem wT_b {st R : Nat → Nat} {m j : Nat} (h : wayok st R m) : wT R j < 512 := by
  have h0 := h.1 j
  have h1 := h.1 (j + 1)
  have h2 := h.1 (j + 2)
  unfold wT
  omega
theorem wT_t {t : tw} {R : Nat → Nat} {m j : Nat} (h : wayok (t 1) R m) (hj : j < m) : tB t (wT R j) = true := by
  have h0 := h.1 j
  have h1 := h.1 (j + 1)
  have h2 := h.1 (j + 2)
  exact tB_x h0 h1 h2 (h.2.1 j hj).1 (h.2.1 j hj).2
theorem spd_n {st f nw R : Nat → Nat} {m j : Nat} (h : wayok st R m) (hj : j < m) : spd f nw R j (wT R j) = nw (wT R j) := by
  unfold spd
  rw [if_neg]
  intro h2
  obtain ⟨i, hi, he⟩ := onW_i.mp h2
  exact h.2.2 i j hi hj he
theorem spd_0 (f nw R : Nat → Nat) (k : Nat) : spd f nw R 0 k = nw k := rfl
theorem spd_e (f nw R : Nat → Nat) (j : Nat) : spd f nw R (j + 1) (wT R j) = f (nw (wT R j)) := by
  unfold spd
  rw [if_pos]
  exact onW_i.mpr ⟨j, by omega, rfl⟩
theorem spd_o {f nw R : Nat → Nat} {j k : Nat} (h : k ≠ wT R j) : spd f nw R (j + 1) k = spd f nw R j k := by
  unfold spd
  have : onW R k (j + 1) = onW R k j := by
    show (onW R k j || decide (wT R j = k)) = _
    rw [decide_eq_false (fun he => h he.symm), Bool.or_false]
  rw [this]
theorem spd_b {f nw R : Nat → Nat} {m B : Nat} (h : ∀ k, k < 512 → nw k ≤ B) (hf : ∀ v, v ≤ B → f v ≤ B) : ∀ k, k < 512 → spd f nw R m k ≤ B := by
  intro k hk
  unfold spd
  split
  · exact hf _ (h k hk)
  · exact h k hk
theorem kp1 {v : Nat} (h : 0 < v) : nI v + (-1 : Int32) = nI (v - 1) := by
  have := pk_m1 (v - 1)
  rw [show v - 1 + 1 = v from by omega] at this
  exact this
theorem kmx {v : Nat} (h : v < 2147483648) : (if nI v - nI 1 < nI 0 then nI 0 else nI v - nI 1) = nI (v - 1) := by
  by_cases h0 : v = 0
  · subst h0; decide
  · rw [ksub (by omega), if_neg]
    rw [klt (by omega) (by decide)]
    omega
theorem pA_lt {st tc D : Nat → Nat} {g a0 : Nat} (hD : isD st tc g D) (ha : a0 < 64) (hs : 0 < st a0) (hf : D a0 < 100000000) : ∀ j i, i < j → (∀ l, l < j → pA st tc D a0 l % 8 ≠ g) → D (pA st tc D a0 j) < D (pA st tc D a0 i) := by
  intro j
  induction j with
  | zero => intro i h; omega
  | succ j ih =>
    intro i hi hl
    obtain ⟨h1, h2, h3, h4, h5⟩ := pA_sp hD ha hs hf j (fun l h => hl l (by omega))
    have h6 := (nxt_sp hD h1 h2 h3 (hl j (by omega))).2.2.1
    have h7 : D (pA st tc D a0 (j + 1)) < D (pA st tc D a0 j) := h6
    by_cases he : i = j
    · rw [he]; exact h7
    · exact Nat.lt_trans h7 (ih i (by omega) (fun l h => hl l (by omega)))
/-- a first way's row -/
theorem wR_ok {st tc : Nat → Nat} {g x : Nat} (hk : stok st tc) (hx : x < 8) (hf : wC st tc g x < 100000000) : wayok st (wR st tc g x) (wL st tc g x - 2) ∧ ∀ j, j < wL st tc g x - 2 → tc (wT (wR st tc g x) j) ≤ 1000000 := by
  by_cases hxg : x = g
  · have e2 : wL st tc g x = 1 := if_pos hxg
    rw [e2]
    exact ⟨⟨fun j => wR_8 hx, fun j h => by omega, fun i j _ h => by omega⟩, fun j h => by omega⟩
  · have e1 : wC st tc g x = (wB st (wD st tc g) x 8).1 := if_neg hxg
    have e2 : wL st tc g x = wS st tc (wD st tc g) g (8 * x + (wB st (wD st tc g) x 8).2) + 2 := if_neg hxg
    rw [e1] at hf
    rw [e2, Nat.add_sub_cancel]
    have hD := wD_is st tc g
    obtain ⟨w1, w2, w3⟩ := wB_sp st (wD st tc g) x 8
    obtain ⟨v1, v2, v3⟩ := w3 hf
    have ha0 : 8 * x + (wB st (wD st tc g) x 8).2 < 64 := by omega
    have hfa : wD st tc g (8 * x + (wB st (wD st tc g) x 8).2) < 100000000 := by omega
    obtain ⟨s1, s2, s3⟩ := wS_sp hD hk ha0 v2 hfa
    have hA := fun i hi => wR_arc (st := st) (tc := tc) (g := g) (x := x) (i := i) hk hx hf hi
    have hT : ∀ j, j < wS st tc (wD st tc g) g (8 * x + (wB st (wD st tc g) x 8).2) → wT (wR st tc g x) j = 8 * pA st tc (wD st tc g) (8 * x + (wB st (wD st tc g) x 8).2) j + nxt st tc (wD st tc g) (pA st tc (wD st tc g) (8 * x + (wB st (wD st tc g) x 8).2) j) := by
      intro j hj
      obtain ⟨a1, a2, a3⟩ := hA j (by omega)
      obtain ⟨p1, p2, p3, p4, p5⟩ := pA_sp hD ha0 v2 hfa j (fun l h => s3 l (by omega))
      have n1 := (nxt_sp hD p1 p2 p3 (s3 j hj)).1
      have r2 : wR st tc g x (j + 2) = nxt st tc (wD st tc g) (pA st tc (wD st tc g) (8 * x + (wB st (wD st tc g) x 8).2) j) := by
        show (8 * (pA st tc (wD st tc g) (8 * x + (wB st (wD st tc g) x 8).2) j % 8) + nxt st tc (wD st tc g) (pA st tc (wD st tc g) (8 * x + (wB st (wD st tc g) x 8).2) j)) % 8 = _
        omega
      unfold wT
      rw [r2]
      omega
    refine ⟨⟨fun j => wR_8 hx, fun j hj => ?_, fun i j hij hj => ?_⟩, fun j hj => ?_⟩
    · obtain ⟨a1, a2, a3⟩ := hA j (by omega)
      obtain ⟨b1, b2, b3⟩ := hA (j + 1) (by omega)
      obtain ⟨p1, p2, p3, p4, p5⟩ := pA_sp hD ha0 v2 hfa j (fun l h => s3 l (by omega))
      obtain ⟨q1, q2, q3, q4, q5⟩ := pA_sp hD ha0 v2 hfa (j + 1) (fun l h => s3 l (by omega))
      rw [a1, b1]
      exact ⟨p2, q2⟩
    · intro he
      rw [hT i (by omega), hT j hj] at he
      have h1 := pA_lt hD ha0 v2 hfa j i hij (fun l h => s3 l (by omega))
      obtain ⟨p1, p2, p3, p4, p5⟩ := pA_sp hD ha0 v2 hfa j (fun l h => s3 l (by omega))
      obtain ⟨q1, q2, q3, q4, q5⟩ := pA_sp hD ha0 v2 hfa i (fun l h => s3 l (by omega))
      have n1 := (nxt_sp hD p1 p2 p3 (s3 j hj)).1
      have n2 := (nxt_sp hD q1 q2 q3 (s3 i (by omega))).1
      have h2 : pA st tc (wD st tc g) (8 * x + (wB st (wD st tc g) x 8).2) i = pA st tc (wD st tc g) (8 * x + (wB st (wD st tc g) x 8).2) j := by omega
      rw [h2] at h1
      omega
    · rw [hT j hj]
      obtain ⟨p1, p2, p3, p4, p5⟩ := pA_sp hD ha0 v2 hfa j (fun l h => s3 l (by omega))
      obtain ⟨n1, n2, n3, n4, n5⟩ := nxt_sp hD p1 p2 p3 (s3 j hj)
      generalize nxt st tc (wD st tc g) (pA st tc (wD st tc g) (8 * x + (wB st (wD st tc g) x 8).2) j) = zz at n1 n4 ⊢
      generalize pA st tc (wD st tc g) (8 * x + (wB st (wD st tc g) x 8).2) j = aa at p1 p3 n4 ⊢
      unfold sC at n4
      rcases hk.2.2 (8 * aa + zz) (by omega) with h | h | h <;> omega
theorem c_addm_49 {e : am_V} {I : Nat → Nat → Int32} {L : Nat → Nat → Int64} {Q : (Nat → Nat → Int32) → Prop} {t : tw} {nw R : Nat → Nat} {len m : Nat} {F : Nat → Int32} (h40 : ∀ i, i < len → I 40 i = nI (R i)) (hlen : len ≤ 40) (hm : m = len - 2) (hw : wayok (t 1) R m) (hb : ∀ k, k < 512 → nw k ≤ 1000) (hpos : ∀ j, j < m → 0 < nw (wT R j)) (hF : ∀ k, k < 512 → tB t k = true → F k = nI (nw k)) (hQ : ∀ F', (∀ k, k < 512 → tB t k = true → F' k = nI (spd (fun v => v - 1) nw R m k)) → Q (va_up I 49 F')) : C_X10_addToTurns_40_49 e (nI len) (-1 : Int32) (va_up I 49 F) L Q := by
  refine b_X10_addToTurns_40_49 ?_
  refine lp_up (n := m) (S := Nat → Int32) (T := fun j F => T_X10_addToTurns_40_49_p3 e (nI len) (-1 : Int32) (nI (j + 2)) (va_up I 49 F) L Q) (fun j F => ∀ k, k < 512 → tB t k = true → F k = nI (spd (fun v => v - 1) nw R j k)) ?_ ?_ 0 F (Nat.zero_le _) hF
  · intro j F hj hi hnext
    have r0 := h40 (j) (by omega)
    have r1 := h40 (j + 1) (by omega)
    have r2 := h40 (j + 2) (by omega)
    have z0 := hw.1 j
    have z1 := hw.1 (j + 1)
    have z2 := hw.1 (j + 2)
    have hT := wT_t hw hj
    have hT5 := wT_b (j := j) hw
    have hp := hpos j hj
    unfold wT at hp
    have e1 : F (64 * R j + 8 * R (j + 1) + R (j + 2)) = nI (nw (64 * R j + 8 * R (j + 1) + R (j + 2))) := by
      have h5 := hi (wT R j) hT5 hT
      rw [spd_n hw hj] at h5
      exact h5
    have hbb := hb (64 * R j + 8 * R (j + 1) + R (j + 2)) (by omega)
    have q1 : (len ≤ j + 2) = False := eq_false (by omega)
    have q2 : j + 2 - 2 = j := by omega
    have q3 : j + 2 - 1 = j + 1 := by omega
    refine b_X10_addToTurns_40_49_p3 ?_
    simp (disch := omega) only [pk_mul, nI_add, ksub, kdv, kd8, kd64, kd2, kd3, km8, km64, kt8, ke8, ke64, kcl, kin, kle, klt, keq, up_s, up_n, up_u, true_and, and_true, false_implies, true_implies, not_false_eq_true, not_true_eq_false, q1, q2, q3, r0, r1, r2, e1, kp1, kmx]
    refine hnext _ (fun k hk5 hp5 => ?_)
    by_cases he : k = wT R j
    · rw [he, spd_e]
      show va_up F (wT R j) _ (wT R j) = _
      exact up_s
    · rw [spd_o he]
      show va_up F (wT R j) _ k = _
      rw [up_n he]
      exact hi k hk5 hp5
  · intro F hi
    have q1 : (len ≤ m + 2) = True := eq_true (by omega)
    refine b_X10_addToTurns_40_49_p3 ?_
    simp (disch := omega) only [pk_mul, nI_add, ksub, kdv, kd8, kd64, kd2, kd3, km8, km64, kt8, ke8, ke64, kcl, kin, kle, klt, keq, up_s, up_n, up_u, true_and, and_true, false_implies, true_implies, not_false_eq_true, not_true_eq_false, q1]
    exact hQ F hi
theorem c_addp_2 {e : am_V} {I : Nat → Nat → Int32} {L : Nat → Nat → Int64} {Q : (Nat → Nat → Int32) → Prop} {t : tw} {nw R : Nat → Nat} {len m : Nat} {F : Nat → Int32} (h40 : ∀ i, i < len → I 40 i = nI (R i)) (hlen : len ≤ 40) (hm : m = len - 2) (hw : wayok (t 1) R m) (hb : ∀ k, k < 512 → nw k ≤ 1000) (hF : ∀ k, k < 512 → tB t k = true → F k = nI (nw k)) (hQ : ∀ F', (∀ k, k < 512 → tB t k = true → F' k = nI (spd (fun v => v + 1) nw R m k)) → Q (va_up I 2 F')) : C_X10_addToTurns_40_2 e (nI len) (nI 1) (va_up I 2 F) L Q := by
  refine b_X10_addToTurns_40_2 ?_
  refine lp_up (n := m) (S := Nat → Int32) (T := fun j F => T_X10_addToTurns_40_2_p3 e (nI len) (nI 1) (nI (j + 2)) (va_up I 2 F) L Q) (fun j F => ∀ k, k < 512 → tB t k = true → F k = nI (spd (fun v => v + 1) nw R j k)) ?_ ?_ 0 F (Nat.zero_le _) hF
  · intro j F hj hi hnext
    have r0 := h40 (j) (by omega)
    have r1 := h40 (j + 1) (by omega)
    have r2 := h40 (j + 2) (by omega)
    have z0 := hw.1 j
    have z1 := hw.1 (j + 1)
    have z2 := hw.1 (j + 2)
    have hT := wT_t hw hj
    have hT5 := wT_b (j := j) hw
    have e1 : F (64 * R j + 8 * R (j + 1) + R (j + 2)) = nI (nw (64 * R j + 8 * R (j + 1) + R (j + 2))) := by
      have h5 := hi (wT R j) hT5 hT
      rw [spd_n hw hj] at h5
      exact h5
    have hbb := hb (64 * R j + 8 * R (j + 1) + R (j + 2)) (by omega)
    have q1 : (len ≤ j + 2) = False := eq_false (by omega)
    have q2 : j + 2 - 2 = j := by omega
    have q3 : j + 2 - 1 = j + 1 := by omega
    refine b_X10_addToTurns_40_2_p3 ?_
    simp (disch := omega) only [pk_mul, nI_add, ksub, kdv, kd8, kd64, kd2, kd3, km8, km64, kt8, ke8, ke64, kcl, kin, kle, klt, keq, up_s, up_n, up_u, true_and, and_true, false_implies, true_implies, not_false_eq_true, not_true_eq_false, q1, q2, q3, r0, r1, r2, e1, kp1, kmx]
    refine hnext _ (fun k hk5 hp5 => ?_)
    by_cases he : k = wT R j
    · rw [he, spd_e]
      show va_up F (wT R j) _ (wT R j) = _
      exact up_s
    · rw [spd_o he]
      show va_up F (wT R j) _ k = _
      rw [up_n he]
      exact hi k hk5 hp5
  · intro F hi
    have q1 : (len ≤ m + 2) = True := eq_true (by omega)
    refine b_X10_addToTurns_40_2_p3 ?_
    simp (disch := omega) only [pk_mul, nI_add, ksub, kdv, kd8, kd64, kd2, kd3, km8, km64, kt8, ke8, ke64, kcl, kin, kle, klt, keq, up_s, up_n, up_u, true_and, and_true, false_implies, true_implies, not_false_eq_true, not_true_eq_false, q1]
    exact hQ F hi
theorem c_burn_2 {e : am_V} {I : Nat → Nat → Int32} {L : Nat → Nat → Int64} {Q : (Nat → Nat → Int32) → Prop} {t : tw} {nw R : Nat → Nat} {len m : Nat} {F : Nat → Int32} (hlen0 : I 38 2 = nI len) (h40 : ∀ i, i < len → I 40 i = nI (R i)) (hlen : len ≤ 40) (hm : m = len - 2) (hw : wayok (t 1) R m) (hb : ∀ k, k < 512 → nw k ≤ 1000) (hF : ∀ k, k < 512 → tB t k = true → F k = nI (nw k)) (hQ : ∀ F', (∀ k, k < 512 → tB t k = true → F' k = nI (spd (fun _ => 0) nw R m k)) → Q (va_up I 2 F')) : C_X9_burn_38_2 e (va_up I 2 F) L Q := by
  refine b_X9_burn_38_2 ?_
  refine lp_up (n := m) (S := Nat → Int32) (T := fun j F => T_X9_burn_38_2_p2 e (nI (j + 2)) (va_up I 2 F) L Q) (fun j F => ∀ k, k < 512 → tB t k = true → F k = nI (spd (fun _ => 0) nw R j k)) ?_ ?_ 0 F (Nat.zero_le _) hF
  · intro j F hj hi hnext
    have r0 := h40 (j) (by omega)
    have r1 := h40 (j + 1) (by omega)
    have r2 := h40 (j + 2) (by omega)
    have z0 := hw.1 j
    have z1 := hw.1 (j + 1)
    have z2 := hw.1 (j + 2)
    have hT := wT_t hw hj
    have hT5 := wT_b (j := j) hw
    have e1 : F (64 * R j + 8 * R (j + 1) + R (j + 2)) = nI (nw (64 * R j + 8 * R (j + 1) + R (j + 2))) := by
      have h5 := hi (wT R j) hT5 hT
      rw [spd_n hw hj] at h5
      exact h5
    have hbb := hb (64 * R j + 8 * R (j + 1) + R (j + 2)) (by omega)
    have q1 : (len ≤ j + 2) = False := eq_false (by omega)
    have q2 : j + 2 - 2 = j := by omega
    have q3 : j + 2 - 1 = j + 1 := by omega
    refine b_X9_burn_38_2_p2 ?_
    simp (disch := omega) only [pk_mul, nI_add, ksub, kdv, kd8, kd64, kd2, kd3, km8, km64, kt8, ke8, ke64, kcl, kin, kle, klt, keq, up_s, up_n, up_u, true_and, and_true, false_implies, true_implies, not_false_eq_true, not_true_eq_false, q1, q2, q3, r0, r1, r2, e1, kp1, kmx, hlen0]
    refine hnext _ (fun k hk5 hp5 => ?_)
    by_cases he : k = wT R j
    · rw [he, spd_e]
      show va_up F (wT R j) _ (wT R j) = _
      exact up_s
    · rw [spd_o he]
      show va_up F (wT R j) _ k = _
      rw [up_n he]
      exact hi k hk5 hp5
  · intro F hi
    have q1 : (len ≤ m + 2) = True := eq_true (by omega)
    refine b_X9_burn_38_2_p2 ?_
    simp (disch := omega) only [pk_mul, nI_add, ksub, kdv, kd8, kd64, kd2, kd3, km8, km64, kt8, ke8, ke64, kcl, kin, kle, klt, keq, up_s, up_n, up_u, true_and, and_true, false_implies, true_implies, not_false_eq_true, not_true_eq_false, q1, hlen0]
    exact hQ F hi
theorem c_spend_2 {e : am_V} {I : Nat → Nat → Int32} {L : Nat → Nat → Int64} {Q : (Nat → Nat → Int32) → Prop} {t : tw} {nw R : Nat → Nat} {len m : Nat} {F : Nat → Int32} (hlen0 : I 38 2 = nI len) (h40 : ∀ i, i < len → I 40 i = nI (R i)) (hlen : len ≤ 40) (hm : m = len - 2) (hw : wayok (t 1) R m) (hb : ∀ k, k < 512 → nw k ≤ 1000) (hF : ∀ k, k < 512 → tB t k = true → F k = nI (nw k)) (hQ : ∀ F', (∀ k, k < 512 → tB t k = true → F' k = nI (spd (fun v => v - 1) nw R m k)) → Q (va_up I 2 F')) : C_X9_spendWhatIsLeft_38_2 e (va_up I 2 F) L Q := by
  refine b_X9_spendWhatIsLeft_38_2 ?_
  refine lp_up (n := m) (S := Nat → Int32) (T := fun j F => T_X9_spendWhatIsLeft_38_2_p2 e (nI (j + 2)) (va_up I 2 F) L Q) (fun j F => ∀ k, k < 512 → tB t k = true → F k = nI (spd (fun v => v - 1) nw R j k)) ?_ ?_ 0 F (Nat.zero_le _) hF
  · intro j F hj hi hnext
    have r0 := h40 (j) (by omega)
    have r1 := h40 (j + 1) (by omega)
    have r2 := h40 (j + 2) (by omega)
    have z0 := hw.1 j
    have z1 := hw.1 (j + 1)
    have z2 := hw.1 (j + 2)
    have hT := wT_t hw hj
    have hT5 := wT_b (j := j) hw
    have e1 : F (64 * R j + 8 * R (j + 1) + R (j + 2)) = nI (nw (64 * R j + 8 * R (j + 1) + R (j + 2))) := by
      have h5 := hi (wT R j) hT5 hT
      rw [spd_n hw hj] at h5
      exact h5
    have hbb := hb (64 * R j + 8 * R (j + 1) + R (j + 2)) (by omega)
    have q1 : (len ≤ j + 2) = False := eq_false (by omega)
    have q2 : j + 2 - 2 = j := by omega
    have q3 : j + 2 - 1 = j + 1 := by omega
    refine b_X9_spendWhatIsLeft_38_2_p2 ?_
    simp (disch := omega) only [pk_mul, nI_add, ksub, kdv, kd8, kd64, kd2, kd3, km8, km64, kt8, ke8, ke64, kcl, kin, kle, klt, keq, up_s, up_n, up_u, true_and, and_true, false_implies, true_implies, not_false_eq_true, not_true_eq_false, q1, q2, q3, r0, r1, r2, e1, kp1, kmx, hlen0]
    refine hnext _ (fun k hk5 hp5 => ?_)
    by_cases he : k = wT R j
    · rw [he, spd_e]
      show va_up F (wT R j) _ (wT R j) = _
      exact up_s
    · rw [spd_o he]
      show va_up F (wT R j) _ k = _
      rw [up_n he]
      exact hi k hk5 hp5
  · intro F hi
    have q1 : (len ≤ m + 2) = True := eq_true (by omega)
    refine b_X9_spendWhatIsLeft_38_2_p2 ?_
    simp (disch := omega) only [pk_mul, nI_add, ksub, kdv, kd8, kd64, kd2, kd3, km8, km64, kt8, ke8, ke64, kcl, kin, kle, klt, keq, up_s, up_n, up_u, true_and, and_true, false_implies, true_implies, not_false_eq_true, not_true_eq_false, q1, hlen0]
    exact hQ F hi
theorem c_takesRow {e : am_V} {I : Nat → Nat → Int32} {L : Nat → Nat → Int64} {Q : (Nat → Nat → Int32) → Prop} {t : tw} {nw R : Nat → Nat} {len m : Nat} {F : Nat → Int32} (hlen0 : I 73 27 = nI len) (h40 : ∀ i, i < len → I 89 i = nI (R i)) (hlen : len ≤ 40) (hm : m = len - 2) (hw : wayok (t 1) R m) (hb : ∀ k, k < 512 → nw k ≤ 1000) (hpos : ∀ j, j < m → 0 < nw (wT R j)) (hF : ∀ k, k < 512 → F k = nI (nw k)) (hQ : ∀ F', (∀ k, k < 512 → F' k = nI (spd (fun v => v - 1) nw R m k)) → Q (va_up I 87 F')) : C_X11_takesRow_73 e (va_up I 87 F) L Q := by
  refine b_X11_takesRow_73 ?_
  refine lp_up (n := m) (S := Nat → Int32) (T := fun j F => T_X11_takesRow_73_p2 e (nI j) (va_up I 87 F) L Q) (fun j F => ∀ k, k < 512 → F k = nI (spd (fun v => v - 1) nw R j k)) ?_ ?_ 0 F (Nat.zero_le _) hF
  · intro j F hj hi hnext
    have r0 := h40 (j) (by omega)
    have r1 := h40 (j + 1) (by omega)
    have r2 := h40 (j + 2) (by omega)
    have z0 := hw.1 j
    have z1 := hw.1 (j + 1)
    have z2 := hw.1 (j + 2)
    have hT := wT_t hw hj
    have hT5 := wT_b (j := j) hw
    have hp := hpos j hj
    unfold wT at hp
    have e1 : F (64 * R j + 8 * R (j + 1) + R (j + 2)) = nI (nw (64 * R j + 8 * R (j + 1) + R (j + 2))) := by
      have h5 := hi (wT R j) hT5
      rw [spd_n hw hj] at h5
      exact h5
    have hbb := hb (64 * R j + 8 * R (j + 1) + R (j + 2)) (by omega)
    have q1 : (len ≤ j + 2) = False := eq_false (by omega)
    have q2 : j + 2 - 2 = j := by omega
    have q3 : j + 2 - 1 = j + 1 := by omega
    refine b_X11_takesRow_73_p2 ?_
    simp (disch := omega) only [pk_mul, nI_add, ksub, kdv, kd8, kd64, kd2, kd3, km8, km64, kt8, ke8, ke64, kcl, kin, kle, klt, keq, up_s, up_n, up_u, true_and, and_true, false_implies, true_implies, not_false_eq_true, not_true_eq_false, q1, q2, q3, r0, r1, r2, e1, kp1, kmx, hlen0]
    refine hnext _ (fun k hk5 => ?_)
    by_cases he : k = wT R j
    · rw [he, spd_e]
      show va_up F (wT R j) _ (wT R j) = _
      exact up_s
    · rw [spd_o he]
      show va_up F (wT R j) _ k = _
      rw [up_n he]
      exact hi k hk5
  · intro F hi
    have q1 : (len ≤ m + 2) = True := eq_true (by omega)
    refine b_X11_takesRow_73_p2 ?_
    simp (disch := omega) only [pk_mul, nI_add, ksub, kdv, kd8, kd64, kd2, kd3, km8, km64, kt8, ke8, ke64, kcl, kin, kle, klt, keq, up_s, up_n, up_u, true_and, and_true, false_implies, true_implies, not_false_eq_true, not_true_eq_false, q1, hlen0]
    exact hQ F hi
