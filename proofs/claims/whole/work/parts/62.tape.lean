/-! the tape: feed, end, fault -/
theorem Rel_t {B : tw → Nat × Nat × (Nat → Nat)} {e : am_V} {t : tw} {I J : Nat → Nat → Int32} {L : Nat → Nat → Int64} {m : Nat} (h : Rel B e t I L m) (hr : ∀ a, a ≠ 37 → a ≠ 1 → a ≠ 73 → a ≠ 78 → J a = I a) (h0 : ∀ k, k ≠ 2 → J 37 k = I 37 k) (h73 : ∀ k, k ≠ 0 → k ≠ 6 → J 73 k = I 73 k) (htp : ∃ tp, tp ≤ 1600 ∧ J 37 2 = nI tp ∧ J 73 6 = nI tp ∧ ∀ k, k < 1600 → J 1 k = J 78 k) : Rel B e t J L m := by
  obtain ⟨h1, h2, h3, h4, h5, h6, h7⟩ := h
  obtain ⟨tp, x1, x2, x3, x4⟩ := htp
  obtain ⟨_, _, _, _, _, y5, y6⟩ := h4
  obtain ⟨c, hc, e1, e2, e3⟩ := h7
  refine ⟨h1, CTb_c (b := 3) (fun a h7 h8 => hr a (by omega) (by omega) (by omega) (by omega)) h2, MT_w.mpr (MTw_c (fun a h7 h8 => hr a (by omega) (by omega) (by omega) (by omega)) (MT_w.mp h3)), ⟨tp, x1, x2, x3, x4, ?_, ?_⟩, SL_c h5 (fun s hs => hr _ (by omega) (by omega) (by omega) (by omega)) (hr _ (by omega) (by omega) (by omega) (by omega)) (hr _ (by omega) (by omega) (by omega) (by omega)) (frL_r L), IM_c h6 (hr _ (by omega) (by omega) (by omega) (by omega)) (fun a ha => hr _ (by omega) (by omega) (by omega) (by omega)) (fun a h7 h8 => hr a (by omega) (by omega) (by omega) (by omega)), ⟨c, hc, ?_, ?_, ?_⟩⟩
  · rw [h0 6 (by decide), h73 14 (by decide) (by decide)]; exact y5
  · rw [h0 7 (by decide), h73 15 (by decide) (by decide)]; exact y6
  · rw [hr 0 (by decide) (by decide) (by decide) (by decide)]; exact e1
  · rw [hr 0 (by decide) (by decide) (by decide) (by decide)]; exact e2
  · rw [hr 0 (by decide) (by decide) (by decide) (by decide), hr 51 (by decide) (by decide) (by decide) (by decide), hr 61 (by decide) (by decide) (by decide) (by decide)]; exact e3
theorem tIn {v : Int32} {n : Nat} (hn : n < 2147483648) : v.toInt = (n : Int) ↔ v = nI n := by
  constructor
  · intro h
    apply Int32.toInt_inj.mp
    rw [h, nI_toInt (by omega)]
  · rintro rfl
    exact nI_toInt (by omega)
theorem r_fault {B : tw → Nat × Nat × (Nat → Nat)} {e : am_V} {I : Nat → Nat → Int32} {L : Nat → Nat → Int64} {t : tw} {m : Nat} {v1 : Int32} {Q : Int32 → Int32 → (Nat → Nat → Int32) → Prop} (hR : Rel B e t I L m) (hQ : ∀ r J, Rel B e t J L m → Q r r J) : C_X10_fault_0 e v1 I L (fun r J => C_X11_fault_73 e v1 J L (fun r' K => Q r r' K)) := by
  have f1 : Rel B e t (va_up I 73 (va_up (I 73) 0 (nI 0))) L m := Rel_q hR (fr_73 (fr_refl _ _ _) rfl) (frL_r L) (Nat.le_refl _)
  obtain ⟨tp, x1, x2, x3, x4, x5, x6⟩ := hR.2.2.2.1
  have z0 : v1.toInt = 0 ↔ v1 = nI 0 := tIn (n := 0) (by decide)
  have z1 : v1.toInt = 1 ↔ v1 = nI 1 := tIn (n := 1) (by decide)
  refine b_X10_fault_0 ⟨fun h => b_X11_fault_73 ⟨fun _ => ?_, fun h2 => absurd (z0.mp h) h2⟩, fun h => ⟨fun g => b_X11_fault_73 ⟨fun h2 => absurd (z0.mpr h2) h, fun _ => ⟨fun _ => ?_, fun h2 => absurd (z1.mp g) h2⟩⟩, fun g => b_X11_fault_73 ⟨fun h2 => absurd (z0.mpr h2) h, fun _ => ⟨fun h2 => absurd (z1.mpr h2) g, fun _ => hQ _ _ f1⟩⟩⟩⟩
  · rw [x5]; exact hQ _ _ f1
  · rw [x6]; exact hQ _ _ f1
theorem r_end {B : tw → Nat × Nat × (Nat → Nat)} {e : am_V} {I : Nat → Nat → Int32} {L : Nat → Nat → Int64} {t : tw} {m : Nat} {v1 : Int32} {Q : Int32 → Int32 → (Nat → Nat → Int32) → Prop} (hR : Rel B e t I L m) (hQ : ∀ r J, Rel B e t J L m → Q r r J) : C_X10_end_0 e v1 I L (fun r J => C_X11_end_73 e v1 J L (fun r' K => Q r r' K)) := by
  have f1 : Rel B e t (va_up I 73 (va_up (I 73) 0 (nI 0))) L m := Rel_q hR (fr_73 (fr_refl _ _ _) rfl) (frL_r L) (Nat.le_refl _)
  obtain ⟨tp, x1, x2, x3, x4, x5, x6⟩ := hR.2.2.2.1
  have kk : ∀ x : Int32, (nI tp).toInt64 < x.toInt64 ↔ ¬ x ≤ nI tp := fun x => by
    rw [Int64.lt_iff_toInt_lt, Int32.le_iff_toInt_le, toInt64_toInt, toInt64_toInt]
    omega
  rcases crl v1 tp (by omega) with a | ⟨a, d⟩ | ⟨n, hn, rfl⟩
  · refine b_X10_end_0 ?_
    simp (disch := omega) only [pk_mul, nI_add, ksub, kdv, kd8, kd64, kd2, kd3, km8, km64, kt8, ke8, ke64, kcl, kin, kle, klt, keq, up_s, up_n, up_u, true_and, and_true, false_implies, true_implies, not_false_eq_true, not_true_eq_false, a]
    refine b_X11_end_73 ?_
    simp (disch := omega) only [pk_mul, nI_add, ksub, kdv, kd8, kd64, kd2, kd3, km8, km64, kt8, ke8, ke64, kcl, kin, kle, klt, keq, up_s, up_n, up_u, true_and, and_true, false_implies, true_implies, not_false_eq_true, not_true_eq_false, kzl, a]
    exact hQ _ _ f1
  · refine b_X10_end_0 ?_
    simp (disch := omega) only [pk_mul, nI_add, ksub, kdv, kd8, kd64, kd2, kd3, km8, km64, kt8, ke8, ke64, kcl, kin, kle, klt, keq, up_s, up_n, up_u, true_and, and_true, false_implies, true_implies, not_false_eq_true, not_true_eq_false, a, x2, d]
    refine b_X11_end_73 ?_
    simp (disch := omega) only [pk_mul, nI_add, ksub, kdv, kd8, kd64, kd2, kd3, km8, km64, kt8, ke8, ke64, kcl, kin, kle, klt, keq, up_s, up_n, up_u, true_and, and_true, false_implies, true_implies, not_false_eq_true, not_true_eq_false, kzl, a, x3, kk, d]
    exact hQ _ _ f1
  · have g : (n ≤ tp) = True := eq_true hn
    refine b_X10_end_0 ?_
    simp (disch := omega) only [pk_mul, nI_add, ksub, kdv, kd8, kd64, kd2, kd3, km8, km64, kt8, ke8, ke64, kcl, kin, kle, klt, keq, up_s, up_n, up_u, true_and, and_true, false_implies, true_implies, not_false_eq_true, not_true_eq_false, x2, knl, g]
    refine b_X11_end_73 ?_
    simp (disch := omega) only [pk_mul, nI_add, ksub, kdv, kd8, kd64, kd2, kd3, km8, km64, kt8, ke8, ke64, kcl, kin, kle, klt, keq, up_s, up_n, up_u, true_and, and_true, false_implies, true_implies, not_false_eq_true, not_true_eq_false, kzl, x3, knl, kk, g]
    refine hQ _ _ (Rel_t hR (fun a h1 h2 h3 h4 => ?_) (fun k h1 => ?_) (fun k h1 h2 => ?_) ⟨n, by omega, ?_, ?_, fun k h1 => ?_⟩)
    · simp (disch := omega) only [pk_mul, nI_add, ksub, kdv, kd8, kd64, kd2, kd3, km8, km64, kt8, ke8, ke64, kcl, kin, kle, klt, keq, up_s, up_n, up_u, true_and, and_true, false_implies, true_implies, not_false_eq_true, not_true_eq_false]
    · simp (disch := omega) only [pk_mul, nI_add, ksub, kdv, kd8, kd64, kd2, kd3, km8, km64, kt8, ke8, ke64, kcl, kin, kle, klt, keq, up_s, up_n, up_u, true_and, and_true, false_implies, true_implies, not_false_eq_true, not_true_eq_false]
    · simp (disch := omega) only [pk_mul, nI_add, ksub, kdv, kd8, kd64, kd2, kd3, km8, km64, kt8, ke8, ke64, kcl, kin, kle, klt, keq, up_s, up_n, up_u, true_and, and_true, false_implies, true_implies, not_false_eq_true, not_true_eq_false]
    · simp (disch := omega) only [pk_mul, nI_add, ksub, kdv, kd8, kd64, kd2, kd3, km8, km64, kt8, ke8, ke64, kcl, kin, kle, klt, keq, up_s, up_n, up_u, true_and, and_true, false_implies, true_implies, not_false_eq_true, not_true_eq_false]
    · simp (disch := omega) only [pk_mul, nI_add, ksub, kdv, kd8, kd64, kd2, kd3, km8, km64, kt8, ke8, ke64, kcl, kin, kle, klt, keq, up_s, up_n, up_u, true_and, and_true, false_implies, true_implies, not_false_eq_true, not_true_eq_false]
    · simp (disch := omega) only [pk_mul, nI_add, ksub, kdv, kd8, kd64, kd2, kd3, km8, km64, kt8, ke8, ke64, kcl, kin, kle, klt, keq, up_s, up_n, up_u, true_and, and_true, false_implies, true_implies, not_false_eq_true, not_true_eq_false]
      exact x4 k h1
def bb (v s : Int32) : Int32 := vp_nar .byte ((v >>> (s &&& 31)).toInt8.toInt32)
def f4 (v : Int32) (F : Nat → Int32) (tp : Nat) : Nat → Int32 := va_up (va_up (va_up (va_up F tp (bb v (nI 24))) (tp + 1) (bb v (nI 16))) (tp + 2) (bb v (nI 8))) (tp + 3) (bb v (nI 0))
theorem up_c {F G : Nat → Int32} {k j : Nat} {v : Int32} (h : F j = G j) : va_up F k v j = va_up G k v j := by
  by_cases he : j = k
  · rw [he, up_s, up_s]
  · rw [up_n he, up_n he]; exact h
theorem f4_c {F G : Nat → Int32} {v : Int32} {tp : Nat} (h : ∀ k, k < 1600 → F k = G k) : ∀ k, k < 1600 → f4 v F tp k = f4 v G tp k := fun k hk => up_c (up_c (up_c (up_c (h k hk))))
theorem c_lay1 {e : am_V} {v s : Int32} {tp : Nat} {I : Nat → Nat → Int32} {L : Nat → Nat → Int64} {Q : (Nat → Nat → Int32) → Prop} (hs : ¬ s < nI 0) (h1 : I 37 2 = nI tp) (ht : tp < 1600) (h : T_X4_lay_37_p3 e v (s + (-8 : Int32)) (va_up (va_up I 1 (va_up (I 1) tp (bb v s))) 37 (va_up (I 37) 2 (nI (tp + 1)))) L Q) : T_X4_lay_37_p3 e v s I L Q := by
  have q1 : (1600 ≤ tp) = False := eq_false (by omega)
  refine b_X4_lay_37_p3 ?_
  simp (disch := omega) only [hs, h1, kle, q1, kin, kcl, nI_add, true_and, and_true, false_implies, true_implies, not_false_eq_true]
  exact h
theorem c_lay {e : am_V} {v : Int32} {tp : Nat} {I : Nat → Nat → Int32} {L : Nat → Nat → Int64} {Q : (Nat → Nat → Int32) → Prop} (h1 : I 37 2 = nI tp) (ht : tp + 4 ≤ 1600) (hQ : ∀ J, J 37 = va_up (I 37) 2 (nI (tp + 4)) → J 1 = f4 v (I 1) tp → (∀ a, a ≠ 37 → a ≠ 1 → J a = I a) → Q J) : C_X4_lay_37 e v I L Q := by
  refine b_X4_lay_37 ?_
  refine c_lay1 (tp := tp) (by decide) h1 (by omega) ?_
  refine c_lay1 (tp := tp + 1) (s := nI 16) (by decide) (by simp (disch := omega) only [pk_mul, nI_add, ksub, kdv, kd8, kd64, kd2, kd3, km8, km64, kt8, ke8, ke64, kcl, kin, kle, klt, keq, up_s, up_n, up_u, true_and, and_true, false_implies, true_implies, not_false_eq_true, not_true_eq_false]) (by omega) ?_
  refine c_lay1 (tp := tp + 1 + 1) (s := nI 8) (by decide) (by simp (disch := omega) only [pk_mul, nI_add, ksub, kdv, kd8, kd64, kd2, kd3, km8, km64, kt8, ke8, ke64, kcl, kin, kle, klt, keq, up_s, up_n, up_u, true_and, and_true, false_implies, true_implies, not_false_eq_true, not_true_eq_false]) (by omega) ?_
  refine c_lay1 (tp := tp + 1 + 1 + 1) (s := nI 0) (by decide) (by simp (disch := omega) only [pk_mul, nI_add, ksub, kdv, kd8, kd64, kd2, kd3, km8, km64, kt8, ke8, ke64, kcl, kin, kle, klt, keq, up_s, up_n, up_u, true_and, and_true, false_implies, true_implies, not_false_eq_true, not_true_eq_false]) (by omega) ?_
  refine b_X4_lay_37_p3 ⟨fun _ => hQ _ ?_ ?_ (fun a h1 h2 => ?_), fun h => absurd (by decide) h⟩
  · simp (disch := omega) only [pk_mul, nI_add, ksub, kdv, kd8, kd64, kd2, kd3, km8, km64, kt8, ke8, ke64, kcl, kin, kle, klt, keq, up_s, up_n, up_u, true_and, and_true, false_implies, true_implies, not_false_eq_true, not_true_eq_false]
  · simp (disch := omega) only [pk_mul, nI_add, ksub, kdv, kd8, kd64, kd2, kd3, km8, km64, kt8, ke8, ke64, kcl, kin, kle, klt, keq, up_s, up_n, up_u, true_and, and_true, false_implies, true_implies, not_false_eq_true, not_true_eq_false]
    rfl
  · simp (disch := omega) only [pk_mul, nI_add, ksub, kdv, kd8, kd64, kd2, kd3, km8, km64, kt8, ke8, ke64, kcl, kin, kle, klt, keq, up_s, up_n, up_u, true_and, and_true, false_implies, true_implies, not_false_eq_true, not_true_eq_false]
theorem c_four1 {e : am_V} {v s : Int32} {tp : Nat} {I : Nat → Nat → Int32} {L : Nat → Nat → Int64} {Q : (Nat → Nat → Int32) → Prop} (hs : ¬ s < nI 0) (h1 : I 73 6 = nI tp) (ht : tp < 1600) (h : T_X11_four_73_p3 e v (s + (-8 : Int32)) (va_up (va_up I 78 (va_up (I 78) tp (bb v s))) 73 (va_up (I 73) 6 (nI (tp + 1)))) L Q) : T_X11_four_73_p3 e v s I L Q := by
  refine b_X11_four_73_p3 ?_
  simp (disch := omega) only [hs, h1, kin, kcl, nI_add, true_and, and_true, false_implies, true_implies, not_false_eq_true]
  exact h
theorem c_four {e : am_V} {v : Int32} {tp : Nat} {I : Nat → Nat → Int32} {L : Nat → Nat → Int64} {Q : (Nat → Nat → Int32) → Prop} (h1 : I 73 6 = nI tp) (ht : tp + 4 ≤ 1600) (hQ : ∀ J, J 73 = va_up (I 73) 6 (nI (tp + 4)) → J 78 = f4 v (I 78) tp → (∀ a, a ≠ 73 → a ≠ 78 → J a = I a) → Q J) : C_X11_four_73 e v I L Q := by
  refine b_X11_four_73 ?_
  refine c_four1 (tp := tp) (by decide) h1 (by omega) ?_
  refine c_four1 (tp := tp + 1) (s := nI 16) (by decide) (by simp (disch := omega) only [pk_mul, nI_add, ksub, kdv, kd8, kd64, kd2, kd3, km8, km64, kt8, ke8, ke64, kcl, kin, kle, klt, keq, up_s, up_n, up_u, true_and, and_true, false_implies, true_implies, not_false_eq_true, not_true_eq_false]) (by omega) ?_
  refine c_four1 (tp := tp + 1 + 1) (s := nI 8) (by decide) (by simp (disch := omega) only [pk_mul, nI_add, ksub, kdv, kd8, kd64, kd2, kd3, km8, km64, kt8, ke8, ke64, kcl, kin, kle, klt, keq, up_s, up_n, up_u, true_and, and_true, false_implies, true_implies, not_false_eq_true, not_true_eq_false]) (by omega) ?_
  refine c_four1 (tp := tp + 1 + 1 + 1) (s := nI 0) (by decide) (by simp (disch := omega) only [pk_mul, nI_add, ksub, kdv, kd8, kd64, kd2, kd3, km8, km64, kt8, ke8, ke64, kcl, kin, kle, klt, keq, up_s, up_n, up_u, true_and, and_true, false_implies, true_implies, not_false_eq_true, not_true_eq_false]) (by omega) ?_
  refine b_X11_four_73_p3 ⟨fun _ => hQ _ ?_ ?_ (fun a h1 h2 => ?_), fun h => absurd (by decide) h⟩
  · simp (disch := omega) only [pk_mul, nI_add, ksub, kdv, kd8, kd64, kd2, kd3, km8, km64, kt8, ke8, ke64, kcl, kin, kle, klt, keq, up_s, up_n, up_u, true_and, and_true, false_implies, true_implies, not_false_eq_true, not_true_eq_false]
  · simp (disch := omega) only [pk_mul, nI_add, ksub, kdv, kd8, kd64, kd2, kd3, km8, km64, kt8, ke8, ke64, kcl, kin, kle, klt, keq, up_s, up_n, up_u, true_and, and_true, false_implies, true_implies, not_false_eq_true, not_true_eq_false]
    rfl
  · simp (disch := omega) only [pk_mul, nI_add, ksub, kdv, kd8, kd64, kd2, kd3, km8, km64, kt8, ke8, ke64, kcl, kin, kle, klt, keq, up_s, up_n, up_u, true_and, and_true, false_implies, true_implies, not_false_eq_true, not_true_eq_false]
theorem r_feed {B : tw → Nat × Nat × (Nat → Nat)} {e : am_V} {I : Nat → Nat → Int32} {L : Nat → Nat → Int64} {t : tw} {m : Nat} {v1 v2 v3 v4 v5 : Int32} {Q : Int32 → Int32 → (Nat → Nat → Int32) → Prop} (hR : Rel B e t I L m) (hQ : ∀ r J, Rel B e t J L m → Q r r J) : C_X10_feed_0 e v1 v2 v3 v4 v5 I L (fun r J => C_X11_feed_73 e v1 v2 v3 v4 v5 J L (fun r' K => Q r r' K)) := by
  have f1 : Rel B e t (va_up I 73 (va_up (I 73) 0 (nI 0))) L m := Rel_q hR (fr_73 (fr_refl _ _ _) rfl) (frL_r L) (Nat.le_refl _)
  obtain ⟨tp, x1, x2, x3, x4, x5, x6⟩ := hR.2.2.2.1
  by_cases h : tp + 20 ≤ 1600
  · have q := eq_true h
    refine b_X10_feed_0 ?_
    simp (disch := omega) only [pk_mul, nI_add, ksub, kdv, kd8, kd64, kd2, kd3, km8, km64, kt8, ke8, ke64, kcl, kin, kle, klt, keq, up_s, up_n, up_u, true_and, and_true, false_implies, true_implies, not_false_eq_true, not_true_eq_false, x2, q]
    refine c_lay x2 (by omega) (fun J1 a1 b1 c1 => c_lay (tp := tp + 4) (by rw [a1, up_s]) (by omega) (fun J2 a2 b2 c2 => c_lay (tp := tp + 8) (by rw [a2, up_s]) (by omega) (fun J3 a3 b3 c3 => c_lay (tp := tp + 12) (by rw [a3, up_s]) (by omega) (fun J4 a4 b4 c4 => c_lay (tp := tp + 16) (by rw [a4, up_s]) (by omega) (fun J5 a5 b5 c5 => ?_)))))
    have cc : ∀ a, a ≠ 37 → a ≠ 1 → J5 a = I a := fun a h1 h2 => by rw [c5 a h1 h2, c4 a h1 h2, c3 a h1 h2, c2 a h1 h2, c1 a h1 h2]
    have a0 : J5 37 = va_up (I 37) 2 (nI (tp + 20)) := by rw [a5, a4, a3, a2, a1, up_u, up_u, up_u, up_u]
    have b0 : J5 1 = f4 v5 (f4 v4 (f4 v3 (f4 v2 (f4 v1 (I 1) tp) (tp + 4)) (tp + 8)) (tp + 12)) (tp + 16) := by rw [b5, b4, b3, b2, b1]
    have k73 : J5 73 = I 73 := cc 73 (by decide) (by decide)
    have k78 : J5 78 = I 78 := cc 78 (by decide) (by decide)
    rw [a0, up_s]
    refine b_X11_feed_73 ?_
    rw [k73]
    simp (disch := omega) only [pk_mul, nI_add, ksub, kdv, kd8, kd64, kd2, kd3, km8, km64, kt8, ke8, ke64, kcl, kin, kle, klt, keq, up_s, up_n, up_u, true_and, and_true, false_implies, true_implies, not_false_eq_true, not_true_eq_false, x3, q]
    refine c_four (tp := tp) (by simp (disch := omega) only [pk_mul, nI_add, ksub, kdv, kd8, kd64, kd2, kd3, km8, km64, kt8, ke8, ke64, kcl, kin, kle, klt, keq, up_s, up_n, up_u, true_and, and_true, false_implies, true_implies, not_false_eq_true, not_true_eq_false, x3]) (by omega) (fun K1 d1 e1 g1 => c_four (tp := tp + 4) (by rw [d1, up_s]) (by omega) (fun K2 d2 e2 g2 => c_four (tp := tp + 8) (by rw [d2, up_s]) (by omega) (fun K3 d3 e3 g3 => c_four (tp := tp + 12) (by rw [d3, up_s]) (by omega) (fun K4 d4 e4 g4 => c_four (tp := tp + 16) (by rw [d4, up_s]) (by omega) (fun K5 d5 e5 g5 => ?_)))))
    have gg : ∀ a, a ≠ 73 → a ≠ 78 → K5 a = J5 a := fun a h1 h2 => by
      rw [g5 a h1 h2, g4 a h1 h2, g3 a h1 h2, g2 a h1 h2, g1 a h1 h2]
      simp (disch := omega) only [pk_mul, nI_add, ksub, kdv, kd8, kd64, kd2, kd3, km8, km64, kt8, ke8, ke64, kcl, kin, kle, klt, keq, up_s, up_n, up_u, true_and, and_true, false_implies, true_implies, not_false_eq_true, not_true_eq_false]
    have d0 : K5 73 = va_up (va_up (I 73) 0 (nI 0)) 6 (nI (tp + 20)) := by
      rw [d5, d4, d3, d2, d1, up_u, up_u, up_u, up_u]
      simp (disch := omega) only [pk_mul, nI_add, ksub, kdv, kd8, kd64, kd2, kd3, km8, km64, kt8, ke8, ke64, kcl, kin, kle, klt, keq, up_s, up_n, up_u, true_and, and_true, false_implies, true_implies, not_false_eq_true, not_true_eq_false]
    have e0 : K5 78 = f4 v5 (f4 v4 (f4 v3 (f4 v2 (f4 v1 (I 78) tp) (tp + 4)) (tp + 8)) (tp + 12)) (tp + 16) := by
      rw [e5, e4, e3, e2, e1]
      simp (disch := omega) only [pk_mul, nI_add, ksub, kdv, kd8, kd64, kd2, kd3, km8, km64, kt8, ke8, ke64, kcl, kin, kle, klt, keq, up_s, up_n, up_u, true_and, and_true, false_implies, true_implies, not_false_eq_true, not_true_eq_false]
      rw [k78]
    rw [d0, up_s]
    refine hQ _ _ (Rel_t hR (fun a h1 h2 h3 h4 => ?_) (fun k h1 => ?_) (fun k h1 h2 => ?_) ⟨tp + 20, h, ?_, ?_, fun k h1 => ?_⟩)
    · rw [gg a h3 h4, cc a h1 h2]
    · rw [gg 37 (by decide) (by decide), a0, up_n h1]
    · rw [d0, up_n h2, up_n h1]
    · rw [gg 37 (by decide) (by decide), a0, up_s]
    · rw [d0, up_s]
    · rw [gg 1 (by decide) (by decide), b0, e0]
      exact f4_c (f4_c (f4_c (f4_c (f4_c x4)))) k h1
  · have q := eq_false h
    refine b_X10_feed_0 ?_
    simp (disch := omega) only [pk_mul, nI_add, ksub, kdv, kd8, kd64, kd2, kd3, km8, km64, kt8, ke8, ke64, kcl, kin, kle, klt, keq, up_s, up_n, up_u, true_and, and_true, false_implies, true_implies, not_false_eq_true, not_true_eq_false, x2, q]
    refine b_X11_feed_73 ?_
    simp (disch := omega) only [pk_mul, nI_add, ksub, kdv, kd8, kd64, kd2, kd3, km8, km64, kt8, ke8, ke64, kcl, kin, kle, klt, keq, up_s, up_n, up_u, true_and, and_true, false_implies, true_implies, not_false_eq_true, not_true_eq_false, x3, q]
    exact hQ _ _ f1
