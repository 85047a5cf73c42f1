/-! slots: paste (by gen_66.py) -/
theorem kadd {a n c : Nat} (ha : a < 2147483648) (hn : n < 2147483648) (hc : c ≤ 60) : ((nI c).toInt64 < (nI a).toInt64 + (nI n).toInt64) = (c < a + n) := by
  refine propext ?_
  rw [Int64.lt_iff_toInt_lt, lg_i2l_add, toInt64_toInt, nI_toInt (by omega), nI_toInt (by omega), nI_toInt (by omega)]
  omega
theorem m_paste {e : am_V} {I : Nat → Nat → Int32} {L : Nat → Nat → Int64} {x y a b n : Nat} {Q : Int32 → (Nat → Nat → Int32) → (Nat → Nat → Int64) → Prop} (hx : x < 4) (hy : y < 4) (ha : a + n ≤ 60) (hb : b + n ≤ 60) (hQ : ∀ M, (∀ r, r ≠ 76 → r ≠ 77 → M r = L r) → (∀ k, k < n → M 76 (60 * y + b + k) = L 76 (60 * x + a + k)) → (∀ k, (k < 60 * y + b ∨ 60 * y + b + n ≤ k) → M 76 k = L 76 k) → Q (nI 0) I M) : T_X11_paste_73_p118 e (nI x) (nI a) (nI y) (nI b) (nI n) (nI 0) I L Q := by
  have e0 : L = va_up L 77 (L 77) := (up_id _ _).symm
  rw [e0]
  refine lp_up (n := n) (S := Nat → Int64) (T := fun i G => T_X11_paste_73_p118 e (nI x) (nI a) (nI y) (nI b) (nI n) (nI i) I (va_up L 77 G) Q) (fun i G => ∀ k, k < i → G k = L 76 (60 * x + a + k)) ?_ ?_ 0 _ (Nat.zero_le _) (fun k hk => absurd hk (Nat.not_lt_zero k))
  · intro i G hi h1 hnext
    have q1 : (n ≤ i) = False := eq_false (by omega)
    refine b_X11_paste_73_p118 ?_
    simp (disch := omega) only [pk_mul, nI_add, ksub, kdv, kd8, kd64, kd2, kd3, km8, km64, kt8, ke8, ke64, kcl, kin, kle, klt, keq, up_s, up_n, up_u, true_and, and_true, false_implies, true_implies, not_false_eq_true, not_true_eq_false, q1]
    refine hnext _ (fun k hk => ?_)
    by_cases he : k = i
    · rw [he, up_s]
    · rw [up_n he]; exact h1 k (by omega)
  · intro G h1
    have q1 : (n ≤ n) = True := eq_true (Nat.le_refl _)
    refine b_X11_paste_73_p118 ?_
    simp (disch := omega) only [pk_mul, nI_add, ksub, kdv, kd8, kd64, kd2, kd3, km8, km64, kt8, ke8, ke64, kcl, kin, kle, klt, keq, up_s, up_n, up_u, true_and, and_true, false_implies, true_implies, not_false_eq_true, not_true_eq_false, q1]
    have e1 : va_up L 77 G = va_up (va_up L 77 G) 76 (L 76) := (up_id (va_up L 77 G) 76).symm
    rw [e1]
    refine lp_up (n := n) (S := Nat → Int64) (T := fun i H => T_X11_paste_73_p155 e (nI y) (nI b) (nI n) (nI i) I (va_up (va_up L 77 G) 76 H) Q) (fun i H => (∀ k, k < i → H (60 * y + b + k) = G k) ∧ ∀ k, (k < 60 * y + b ∨ 60 * y + b + i ≤ k) → H k = L 76 k) ?_ ?_ 0 _ (Nat.zero_le _) ⟨fun k hk => absurd hk (Nat.not_lt_zero k), fun _ _ => rfl⟩
    · rintro i H hi ⟨h2, h3⟩ hnext
      have q1 : (n ≤ i) = False := eq_false (by omega)
      refine b_X11_paste_73_p155 ?_
      simp (disch := omega) only [pk_mul, nI_add, ksub, kdv, kd8, kd64, kd2, kd3, km8, km64, kt8, ke8, ke64, kcl, kin, kle, klt, keq, up_s, up_n, up_u, true_and, and_true, false_implies, true_implies, not_false_eq_true, not_true_eq_false, q1]
      refine hnext _ ⟨fun k hk => ?_, fun k hk => ?_⟩
      · by_cases he : k = i
        · rw [he, up_s]
        · rw [up_n (by omega)]; exact h2 k (by omega)
      · rw [up_n (by omega)]; exact h3 k (by omega)
    · rintro H ⟨h2, h3⟩
      have q1 : (n ≤ n) = True := eq_true (Nat.le_refl _)
      refine b_X11_paste_73_p155 ?_
      simp (disch := omega) only [pk_mul, nI_add, ksub, kdv, kd8, kd64, kd2, kd3, km8, km64, kt8, ke8, ke64, kcl, kin, kle, klt, keq, up_s, up_n, up_u, true_and, and_true, false_implies, true_implies, not_false_eq_true, not_true_eq_false, q1]
      refine hQ _ (fun r r1 r2 => ?_) (fun k hk => ?_) (fun k hk => ?_)
      · simp (disch := omega) only [pk_mul, nI_add, ksub, kdv, kd8, kd64, kd2, kd3, km8, km64, kt8, ke8, ke64, kcl, kin, kle, klt, keq, up_s, up_n, up_u, true_and, and_true, false_implies, true_implies, not_false_eq_true, not_true_eq_false]
      · rw [up_s, h2 k hk, h1 k hk]
      · rw [up_s]; exact h3 k hk
theorem SL_p {I : Nat → Nat → Int32} {L M : Nat → Nat → Int64} {x y a b n c : Nat} (h : SL I L) (hy : y < 4) (hx6 : ∀ k, k < c → L (30 + 2 * x) k = L 76 (60 * x + k)) (ha : a + n ≤ c) (hb : b + n ≤ 60) (m1 : M (30 + 2 * y) = va_cpy (L (30 + 2 * x)) (L (30 + 2 * y)) a b n) (mr : ∀ s, s < 4 → s ≠ y → M (30 + 2 * s) = L (30 + 2 * s)) (m2 : ∀ k, k < n → M 76 (60 * y + b + k) = L 76 (60 * x + a + k)) (m3 : ∀ k, (k < 60 * y + b ∨ 60 * y + b + n ≤ k) → M 76 k = L 76 k) : SL I M := by
  intro s hs
  rcases h s hs with h1 | ⟨w, c', hw, hc, a1, a2, a3, a4, a5, a6⟩
  · exact Or.inl h1
  · refine Or.inr ⟨w, c', hw, hc, a1, a2, a3, a4, a5, fun k hk => ?_⟩
    by_cases he : s = y
    · subst he
      rw [m1]
      by_cases hk2 : b ≤ k ∧ k < b + n
      · rw [pk_cpy_in hk2.1 hk2.2, hx6 _ (by omega)]
        have h5 := m2 (k - b) (by omega)
        rw [show 60 * s + b + (k - b) = 60 * s + k from by omega] at h5
        rw [h5]
        exact congrArg (L 76) (by omega)
      · rw [pk_cpy_out (by omega), m3 _ (by omega)]
        exact a6 k hk
    · rw [mr s hs he, m3 _ (by omega)]
      exact a6 k hk
theorem w_paste_0_0 {B : tw → Nat × Nat × (Nat → Nat)} {e : am_V} {I : Nat → Nat → Int32} {L : Nat → Nat → Int64} {t : tw} {m : Nat} {v2 v4 v5 : Int32} {Q : Int32 → Int32 → (Nat → Nat → Int32) → (Nat → Nat → Int64) → Prop} (hR : Rel B e t I L m) (hQ : ∀ r J M, Rel B e t J M m → Q r r J M) : C_X10_paste_0 e (nI 0) v2 (nI 0) v4 v5 I L (fun r J M => C_X11_paste_73 e (nI 0) v2 (nI 0) v4 v5 J M (fun r' K N => Q r r' K N)) := by
  have f1 : Rel B e t (va_up I 73 (va_up (I 73) 0 (nI 0))) L m := Rel_q hR (fr_73 (fr_refl _ _ _) rfl) (frL_r L) (Nat.le_refl _)
  have hS := hR.2.2.2.2.1
  have hS1 := f1.2.2.2.2.1
  have gx : (0 ≤ 3) = True := eq_true (by decide)
  have gy : (0 ≤ 3) = True := eq_true (by decide)
  have q2 : ((-1 : Int32) = (-1 : Int32)) = True := eq_true rfl
  have n00 : ((0 : Nat) = 0) = True := eq_true rfl
  rcases hS 0 (by decide) with ⟨a1, a2⟩ | ⟨w, c, hw, hc, a1, a2, a3, a4, a5, a6⟩
  · have b1 : I 29 1 = nI 0 := a1
    refine b_X10_paste_0_c0_c0 ?_
    simp (disch := omega) only [pk_mul, nI_add, ksub, kdv, kd8, kd64, kd2, kd3, km8, km64, kt8, ke8, ke64, kcl, kin, kle, klt, keq, up_s, up_n, up_u, true_and, and_true, false_implies, true_implies, not_false_eq_true, not_true_eq_false, b1, n00]
    refine b_X11_paste_73 ?_
    simp (disch := omega) only [pk_mul, nI_add, ksub, kdv, kd8, kd64, kd2, kd3, km8, km64, kt8, ke8, ke64, kcl, kin, kle, klt, keq, up_s, up_n, up_u, true_and, and_true, false_implies, true_implies, not_false_eq_true, not_true_eq_false, kzl, kl3, knl, gx, gy, eq_self, a2, q2]
    exact hQ _ _ _ f1
  · have b1 : I 29 1 = nI 1 := a1
    have b2 : I 29 2 = nI w := a2
    have b3 : I 29 3 = nI c := a3
    have qw := km1 (n := w) (by omega)
    by_cases z2 : v2 < nI 0
    · skip
      refine b_X10_paste_0_c0_c0 ?_
      simp (disch := omega) only [pk_mul, nI_add, ksub, kdv, kd8, kd64, kd2, kd3, km8, km64, kt8, ke8, ke64, kcl, kin, kle, klt, keq, up_s, up_n, up_u, true_and, and_true, false_implies, true_implies, not_false_eq_true, not_true_eq_false, b1, b2, b3, n10, eq_self, z2]
      repeat' (first | refine And.intro (fun _ => ?_) (fun _ => ?_) | (refine b_X11_paste_73 ?_; simp (disch := omega) only [pk_mul, nI_add, ksub, kdv, kd8, kd64, kd2, kd3, km8, km64, kt8, ke8, ke64, kcl, kin, kle, klt, keq, up_s, up_n, up_u, true_and, and_true, false_implies, true_implies, not_false_eq_true, not_true_eq_false, kzl, kl3, knl, gx, gy, eq_self, a4, a5, qw, z2]; repeat' (first | exact hQ _ _ _ f1 | refine And.intro (fun _ => ?_) (fun _ => ?_))))
    by_cases z4 : v4 < nI 0
    · skip
      refine b_X10_paste_0_c0_c0 ?_
      simp (disch := omega) only [pk_mul, nI_add, ksub, kdv, kd8, kd64, kd2, kd3, km8, km64, kt8, ke8, ke64, kcl, kin, kle, klt, keq, up_s, up_n, up_u, true_and, and_true, false_implies, true_implies, not_false_eq_true, not_true_eq_false, b1, b2, b3, n10, eq_self, z2, z4]
      repeat' (first | refine And.intro (fun _ => ?_) (fun _ => ?_) | (refine b_X11_paste_73 ?_; simp (disch := omega) only [pk_mul, nI_add, ksub, kdv, kd8, kd64, kd2, kd3, km8, km64, kt8, ke8, ke64, kcl, kin, kle, klt, keq, up_s, up_n, up_u, true_and, and_true, false_implies, true_implies, not_false_eq_true, not_true_eq_false, kzl, kl3, knl, gx, gy, eq_self, a4, a5, qw, z2, z4]; repeat' (first | exact hQ _ _ _ f1 | refine And.intro (fun _ => ?_) (fun _ => ?_))))
    by_cases z5 : v5 < nI 0
    · skip
      refine b_X10_paste_0_c0_c0 ?_
      simp (disch := omega) only [pk_mul, nI_add, ksub, kdv, kd8, kd64, kd2, kd3, km8, km64, kt8, ke8, ke64, kcl, kin, kle, klt, keq, up_s, up_n, up_u, true_and, and_true, false_implies, true_implies, not_false_eq_true, not_true_eq_false, b1, b2, b3, n10, eq_self, z2, z4, z5]
      repeat' (first | refine And.intro (fun _ => ?_) (fun _ => ?_) | (refine b_X11_paste_73 ?_; simp (disch := omega) only [pk_mul, nI_add, ksub, kdv, kd8, kd64, kd2, kd3, km8, km64, kt8, ke8, ke64, kcl, kin, kle, klt, keq, up_s, up_n, up_u, true_and, and_true, false_implies, true_implies, not_false_eq_true, not_true_eq_false, kzl, kl3, knl, gx, gy, eq_self, a4, a5, qw, z2, z4, z5]; repeat' (first | exact hQ _ _ _ f1 | refine And.intro (fun _ => ?_) (fun _ => ?_))))
    obtain ⟨a, ha, rfl⟩ := nI_of z2
    obtain ⟨b, hb, rfl⟩ := nI_of z4
    obtain ⟨n, hn, rfl⟩ := nI_of z5
    by_cases h1 : c < n
    · have k1 := eq_true h1
      have k2 : (c < a + n) = True := eq_true (by omega)
      refine b_X10_paste_0_c0_c0 ?_
      simp (disch := omega) only [pk_mul, nI_add, ksub, kdv, kd8, kd64, kd2, kd3, km8, km64, kt8, ke8, ke64, kcl, kin, kle, klt, keq, up_s, up_n, up_u, true_and, and_true, false_implies, true_implies, not_false_eq_true, not_true_eq_false, b1, b2, b3, n10, eq_self, knl, k1]
      repeat' (first | refine And.intro (fun _ => ?_) (fun _ => ?_) | (refine b_X11_paste_73 ?_; simp (disch := omega) only [pk_mul, nI_add, ksub, kdv, kd8, kd64, kd2, kd3, km8, km64, kt8, ke8, ke64, kcl, kin, kle, klt, keq, up_s, up_n, up_u, true_and, and_true, false_implies, true_implies, not_false_eq_true, not_true_eq_false, kzl, kl3, knl, gx, gy, eq_self, a4, a5, qw, kadd, k2]; repeat' (first | exact hQ _ _ _ f1 | refine And.intro (fun _ => ?_) (fun _ => ?_))))
    have k1 := eq_false h1
    by_cases h2 : c - n < a
    · have k3 := eq_true h2
      have k2 : (c < a + n) = True := eq_true (by omega)
      refine b_X10_paste_0_c0_c0 ?_
      simp (disch := omega) only [pk_mul, nI_add, ksub, kdv, kd8, kd64, kd2, kd3, km8, km64, kt8, ke8, ke64, kcl, kin, kle, klt, keq, up_s, up_n, up_u, true_and, and_true, false_implies, true_implies, not_false_eq_true, not_true_eq_false, b1, b2, b3, n10, eq_self, knl, k1, k3]
      repeat' (first | refine And.intro (fun _ => ?_) (fun _ => ?_) | (refine b_X11_paste_73 ?_; simp (disch := omega) only [pk_mul, nI_add, ksub, kdv, kd8, kd64, kd2, kd3, km8, km64, kt8, ke8, ke64, kcl, kin, kle, klt, keq, up_s, up_n, up_u, true_and, and_true, false_implies, true_implies, not_false_eq_true, not_true_eq_false, kzl, kl3, knl, gx, gy, eq_self, a4, a5, qw, kadd, k2]; repeat' (first | exact hQ _ _ _ f1 | refine And.intro (fun _ => ?_) (fun _ => ?_))))
    have k3 := eq_false h2
    have k2 : (c < a + n) = False := eq_false (by omega)
    have k4 := k1
    by_cases h4 : c - n < b
    · have k6 := eq_true h4
      have k5 : (c < b + n) = True := eq_true (by omega)
      refine b_X10_paste_0_c0_c0 ?_
      simp (disch := omega) only [pk_mul, nI_add, ksub, kdv, kd8, kd64, kd2, kd3, km8, km64, kt8, ke8, ke64, kcl, kin, kle, klt, keq, up_s, up_n, up_u, true_and, and_true, false_implies, true_implies, not_false_eq_true, not_true_eq_false, b1, b2, b3, n10, eq_self, knl, k1, k3, k4, k6]
      repeat' (first | refine And.intro (fun _ => ?_) (fun _ => ?_) | (refine b_X11_paste_73 ?_; simp (disch := omega) only [pk_mul, nI_add, ksub, kdv, kd8, kd64, kd2, kd3, km8, km64, kt8, ke8, ke64, kcl, kin, kle, klt, keq, up_s, up_n, up_u, true_and, and_true, false_implies, true_implies, not_false_eq_true, not_true_eq_false, kzl, kl3, knl, gx, gy, eq_self, a4, a5, qw, kadd, k2, k5]; repeat' (first | exact hQ _ _ _ f1 | refine And.intro (fun _ => ?_) (fun _ => ?_))))
    have k6 := eq_false h4
    have k5 : (c < b + n) = False := eq_false (by omega)
    have z1 : (a + n ≤ 60) = True := eq_true (by omega)
    have z3 : (b + n ≤ 60) = True := eq_true (by omega)
    have nz : ∀ k : Nat, k < 2147483648 → (nI k < 0) = False := fun k hk => by
      have h9 : (nI k < nI 0) = (k < 0) := klt (by omega) (by omega)
      rw [knl] at h9
      exact h9
    refine b_X10_paste_0_c0_c0 ?_
    simp (disch := omega) only [pk_mul, nI_add, ksub, kdv, kd8, kd64, kd2, kd3, km8, km64, kt8, ke8, ke64, kcl, kin, kle, klt, keq, up_s, up_n, up_u, true_and, and_true, false_implies, true_implies, not_false_eq_true, not_true_eq_false, b1, b2, b3, n10, eq_self, knl, k1, k3, k4, k6, z1, z3, nz]
    refine b_X11_paste_73 ?_
    simp (disch := omega) only [pk_mul, nI_add, ksub, kdv, kd8, kd64, kd2, kd3, km8, km64, kt8, ke8, ke64, kcl, kin, kle, klt, keq, up_s, up_n, up_u, true_and, and_true, false_implies, true_implies, not_false_eq_true, not_true_eq_false, kzl, kl3, knl, gx, gy, eq_self, a4, a5, qw, kadd, k2, k5]
    refine m_paste (by decide) (by decide) (by omega) (by omega) (fun M m1 m2 m3 => hQ _ _ _ (Rel_L f1 (SL_p (x := 0) (y := 0) (a := a) (b := b) (n := n) (c := c) hS1 (by decide) a6 (by omega) (by omega) ?_ (fun s hs hne => ?_) (fun k hk => ?_) (fun k hk => ?_))))
    · rw [m1 _ (by decide) (by decide)]
      rfl
    · rw [m1 _ (by omega) (by omega), up_n (by omega)]
    · rw [m2 k hk]
      rfl
    · rw [m3 k hk]
      rfl
theorem w_paste_0_1 {B : tw → Nat × Nat × (Nat → Nat)} {e : am_V} {I : Nat → Nat → Int32} {L : Nat → Nat → Int64} {t : tw} {m : Nat} {v2 v4 v5 : Int32} {Q : Int32 → Int32 → (Nat → Nat → Int32) → (Nat → Nat → Int64) → Prop} (hR : Rel B e t I L m) (hQ : ∀ r J M, Rel B e t J M m → Q r r J M) : C_X10_paste_0 e (nI 0) v2 (nI 1) v4 v5 I L (fun r J M => C_X11_paste_73 e (nI 0) v2 (nI 1) v4 v5 J M (fun r' K N => Q r r' K N)) := by
  have f1 : Rel B e t (va_up I 73 (va_up (I 73) 0 (nI 0))) L m := Rel_q hR (fr_73 (fr_refl _ _ _) rfl) (frL_r L) (Nat.le_refl _)
  have hS := hR.2.2.2.2.1
  have hS1 := f1.2.2.2.2.1
  have gx : (0 ≤ 3) = True := eq_true (by decide)
  have gy : (1 ≤ 3) = True := eq_true (by decide)
  have q2 : ((-1 : Int32) = (-1 : Int32)) = True := eq_true rfl
  have n00 : ((0 : Nat) = 0) = True := eq_true rfl
  rcases hS 0 (by decide) with ⟨a1, a2⟩ | ⟨w, c, hw, hc, a1, a2, a3, a4, a5, a6⟩
  · have b1 : I 29 1 = nI 0 := a1
    refine b_X10_paste_0_c0_c1 ?_
    simp (disch := omega) only [pk_mul, nI_add, ksub, kdv, kd8, kd64, kd2, kd3, km8, km64, kt8, ke8, ke64, kcl, kin, kle, klt, keq, up_s, up_n, up_u, true_and, and_true, false_implies, true_implies, not_false_eq_true, not_true_eq_false, b1, n00]
    refine b_X11_paste_73 ?_
    simp (disch := omega) only [pk_mul, nI_add, ksub, kdv, kd8, kd64, kd2, kd3, km8, km64, kt8, ke8, ke64, kcl, kin, kle, klt, keq, up_s, up_n, up_u, true_and, and_true, false_implies, true_implies, not_false_eq_true, not_true_eq_false, kzl, kl3, knl, gx, gy, eq_self, a2, q2]
    exact hQ _ _ _ f1
  · have b1 : I 29 1 = nI 1 := a1
    have b2 : I 29 2 = nI w := a2
    have b3 : I 29 3 = nI c := a3
    have qw := km1 (n := w) (by omega)
    rcases hS 1 (by decide) with ⟨d1, d2⟩ | ⟨w2, c2, hw2, hc2, d1, d2, d3, d4, d5, d6⟩
    · have g1 : I 31 1 = nI 0 := d1
      refine b_X10_paste_0_c0_c1 ?_
      simp (disch := omega) only [pk_mul, nI_add, ksub, kdv, kd8, kd64, kd2, kd3, km8, km64, kt8, ke8, ke64, kcl, kin, kle, klt, keq, up_s, up_n, up_u, true_and, and_true, false_implies, true_implies, not_false_eq_true, not_true_eq_false, b1, g1, n10, n00]
      refine b_X11_paste_73 ?_
      simp (disch := omega) only [pk_mul, nI_add, ksub, kdv, kd8, kd64, kd2, kd3, km8, km64, kt8, ke8, ke64, kcl, kin, kle, klt, keq, up_s, up_n, up_u, true_and, and_true, false_implies, true_implies, not_false_eq_true, not_true_eq_false, kzl, kl3, knl, gx, gy, eq_self, a4, qw, d2, q2]
      exact hQ _ _ _ f1
    · have g1 : I 31 1 = nI 1 := d1
      have g2 : I 31 2 = nI w2 := d2
      have g3 : I 31 3 = nI c2 := d3
      have qw2 := km1 (n := w2) (by omega)
      by_cases hww : w = w2
      · have qe := eq_true hww
        by_cases z2 : v2 < nI 0
        · skip
          refine b_X10_paste_0_c0_c1 ?_
          simp (disch := omega) only [pk_mul, nI_add, ksub, kdv, kd8, kd64, kd2, kd3, km8, km64, kt8, ke8, ke64, kcl, kin, kle, klt, keq, up_s, up_n, up_u, true_and, and_true, false_implies, true_implies, not_false_eq_true, not_true_eq_false, b1, b2, b3, n10, g1, g2, g3, qe, z2]
          repeat' (first | refine And.intro (fun _ => ?_) (fun _ => ?_) | (refine b_X11_paste_73 ?_; simp (disch := omega) only [pk_mul, nI_add, ksub, kdv, kd8, kd64, kd2, kd3, km8, km64, kt8, ke8, ke64, kcl, kin, kle, klt, keq, up_s, up_n, up_u, true_and, and_true, false_implies, true_implies, not_false_eq_true, not_true_eq_false, kzl, kl3, knl, gx, gy, eq_self, a4, a5, qw, d4, d5, qw2, qe, z2]; repeat' (first | exact hQ _ _ _ f1 | refine And.intro (fun _ => ?_) (fun _ => ?_))))
        by_cases z4 : v4 < nI 0
        · skip
          refine b_X10_paste_0_c0_c1 ?_
          simp (disch := omega) only [pk_mul, nI_add, ksub, kdv, kd8, kd64, kd2, kd3, km8, km64, kt8, ke8, ke64, kcl, kin, kle, klt, keq, up_s, up_n, up_u, true_and, and_true, false_implies, true_implies, not_false_eq_true, not_true_eq_false, b1, b2, b3, n10, g1, g2, g3, qe, z2, z4]
          repeat' (first | refine And.intro (fun _ => ?_) (fun _ => ?_) | (refine b_X11_paste_73 ?_; simp (disch := omega) only [pk_mul, nI_add, ksub, kdv, kd8, kd64, kd2, kd3, km8, km64, kt8, ke8, ke64, kcl, kin, kle, klt, keq, up_s, up_n, up_u, true_and, and_true, false_implies, true_implies, not_false_eq_true, not_true_eq_false, kzl, kl3, knl, gx, gy, eq_self, a4, a5, qw, d4, d5, qw2, qe, z2, z4]; repeat' (first | exact hQ _ _ _ f1 | refine And.intro (fun _ => ?_) (fun _ => ?_))))
        by_cases z5 : v5 < nI 0
        · skip
          refine b_X10_paste_0_c0_c1 ?_
          simp (disch := omega) only [pk_mul, nI_add, ksub, kdv, kd8, kd64, kd2, kd3, km8, km64, kt8, ke8, ke64, kcl, kin, kle, klt, keq, up_s, up_n, up_u, true_and, and_true, false_implies, true_implies, not_false_eq_true, not_true_eq_false, b1, b2, b3, n10, g1, g2, g3, qe, z2, z4, z5]
          repeat' (first | refine And.intro (fun _ => ?_) (fun _ => ?_) | (refine b_X11_paste_73 ?_; simp (disch := omega) only [pk_mul, nI_add, ksub, kdv, kd8, kd64, kd2, kd3, km8, km64, kt8, ke8, ke64, kcl, kin, kle, klt, keq, up_s, up_n, up_u, true_and, and_true, false_implies, true_implies, not_false_eq_true, not_true_eq_false, kzl, kl3, knl, gx, gy, eq_self, a4, a5, qw, d4, d5, qw2, qe, z2, z4, z5]; repeat' (first | exact hQ _ _ _ f1 | refine And.intro (fun _ => ?_) (fun _ => ?_))))
        obtain ⟨a, ha, rfl⟩ := nI_of z2
        obtain ⟨b, hb, rfl⟩ := nI_of z4
        obtain ⟨n, hn, rfl⟩ := nI_of z5
        by_cases h1 : c < n
        · have k1 := eq_true h1
          have k2 : (c < a + n) = True := eq_true (by omega)
          refine b_X10_paste_0_c0_c1 ?_
          simp (disch := omega) only [pk_mul, nI_add, ksub, kdv, kd8, kd64, kd2, kd3, km8, km64, kt8, ke8, ke64, kcl, kin, kle, klt, keq, up_s, up_n, up_u, true_and, and_true, false_implies, true_implies, not_false_eq_true, not_true_eq_false, b1, b2, b3, n10, g1, g2, g3, qe, knl, k1]
          repeat' (first | refine And.intro (fun _ => ?_) (fun _ => ?_) | (refine b_X11_paste_73 ?_; simp (disch := omega) only [pk_mul, nI_add, ksub, kdv, kd8, kd64, kd2, kd3, km8, km64, kt8, ke8, ke64, kcl, kin, kle, klt, keq, up_s, up_n, up_u, true_and, and_true, false_implies, true_implies, not_false_eq_true, not_true_eq_false, kzl, kl3, knl, gx, gy, eq_self, a4, a5, qw, d4, d5, qw2, qe, kadd, k2]; repeat' (first | exact hQ _ _ _ f1 | refine And.intro (fun _ => ?_) (fun _ => ?_))))
        have k1 := eq_false h1
        by_cases h2 : c - n < a
        · have k3 := eq_true h2
          have k2 : (c < a + n) = True := eq_true (by omega)
          refine b_X10_paste_0_c0_c1 ?_
          simp (disch := omega) only [pk_mul, nI_add, ksub, kdv, kd8, kd64, kd2, kd3, km8, km64, kt8, ke8, ke64, kcl, kin, kle, klt, keq, up_s, up_n, up_u, true_and, and_true, false_implies, true_implies, not_false_eq_true, not_true_eq_false, b1, b2, b3, n10, g1, g2, g3, qe, knl, k1, k3]
          repeat' (first | refine And.intro (fun _ => ?_) (fun _ => ?_) | (refine b_X11_paste_73 ?_; simp (disch := omega) only [pk_mul, nI_add, ksub, kdv, kd8, kd64, kd2, kd3, km8, km64, kt8, ke8, ke64, kcl, kin, kle, klt, keq, up_s, up_n, up_u, true_and, and_true, false_implies, true_implies, not_false_eq_true, not_true_eq_false, kzl, kl3, knl, gx, gy, eq_self, a4, a5, qw, d4, d5, qw2, qe, kadd, k2]; repeat' (first | exact hQ _ _ _ f1 | refine And.intro (fun _ => ?_) (fun _ => ?_))))
        have k3 := eq_false h2
        have k2 : (c < a + n) = False := eq_false (by omega)
        by_cases h3 : c2 < n
        · have k4 := eq_true h3
          have k5 : (c2 < b + n) = True := eq_true (by omega)
          refine b_X10_paste_0_c0_c1 ?_
          simp (disch := omega) only [pk_mul, nI_add, ksub, kdv, kd8, kd64, kd2, kd3, km8, km64, kt8, ke8, ke64, kcl, kin, kle, klt, keq, up_s, up_n, up_u, true_and, and_true, false_implies, true_implies, not_false_eq_true, not_true_eq_false, b1, b2, b3, n10, g1, g2, g3, qe, knl, k1, k3, k4]
          repeat' (first | refine And.intro (fun _ => ?_) (fun _ => ?_) | (refine b_X11_paste_73 ?_; simp (disch := omega) only [pk_mul, nI_add, ksub, kdv, kd8, kd64, kd2, kd3, km8, km64, kt8, ke8, ke64, kcl, kin, kle, klt, keq, up_s, up_n, up_u, true_and, and_true, false_implies, true_implies, not_false_eq_true, not_true_eq_false, kzl, kl3, knl, gx, gy, eq_self, a4, a5, qw, d4, d5, qw2, qe, kadd, k2, k5]; repeat' (first | exact hQ _ _ _ f1 | refine And.intro (fun _ => ?_) (fun _ => ?_))))
        have k4 := eq_false h3
        by_cases h4 : c2 - n < b
        · have k6 := eq_true h4
          have k5 : (c2 < b + n) = True := eq_true (by omega)
          refine b_X10_paste_0_c0_c1 ?_
          simp (disch := omega) only [pk_mul, nI_add, ksub, kdv, kd8, kd64, kd2, kd3, km8, km64, kt8, ke8, ke64, kcl, kin, kle, klt, keq, up_s, up_n, up_u, true_and, and_true, false_implies, true_implies, not_false_eq_true, not_true_eq_false, b1, b2, b3, n10, g1, g2, g3, qe, knl, k1, k3, k4, k6]
          repeat' (first | refine And.intro (fun _ => ?_) (fun _ => ?_) | (refine b_X11_paste_73 ?_; simp (disch := omega) only [pk_mul, nI_add, ksub, kdv, kd8, kd64, kd2, kd3, km8, km64, kt8, ke8, ke64, kcl, kin, kle, klt, keq, up_s, up_n, up_u, true_and, and_true, false_implies, true_implies, not_false_eq_true, not_true_eq_false, kzl, kl3, knl, gx, gy, eq_self, a4, a5, qw, d4, d5, qw2, qe, kadd, k2, k5]; repeat' (first | exact hQ _ _ _ f1 | refine And.intro (fun _ => ?_) (fun _ => ?_))))
        have k6 := eq_false h4
        have k5 : (c2 < b + n) = False := eq_false (by omega)
        have z1 : (a + n ≤ 60) = True := eq_true (by omega)
        have z3 : (b + n ≤ 60) = True := eq_true (by omega)
        have nz : ∀ k : Nat, k < 2147483648 → (nI k < 0) = False := fun k hk => by
          have h9 : (nI k < nI 0) = (k < 0) := klt (by omega) (by omega)
          rw [knl] at h9
          exact h9
        refine b_X10_paste_0_c0_c1 ?_
        simp (disch := omega) only [pk_mul, nI_add, ksub, kdv, kd8, kd64, kd2, kd3, km8, km64, kt8, ke8, ke64, kcl, kin, kle, klt, keq, up_s, up_n, up_u, true_and, and_true, false_implies, true_implies, not_false_eq_true, not_true_eq_false, b1, b2, b3, n10, g1, g2, g3, qe, knl, k1, k3, k4, k6, z1, z3, nz]
        refine b_X11_paste_73 ?_
        simp (disch := omega) only [pk_mul, nI_add, ksub, kdv, kd8, kd64, kd2, kd3, km8, km64, kt8, ke8, ke64, kcl, kin, kle, klt, keq, up_s, up_n, up_u, true_and, and_true, false_implies, true_implies, not_false_eq_true, not_true_eq_false, kzl, kl3, knl, gx, gy, eq_self, a4, a5, qw, d4, d5, qw2, qe, kadd, k2, k5]
        refine m_paste (by decide) (by decide) (by omega) (by omega) (fun M m1 m2 m3 => hQ _ _ _ (Rel_L f1 (SL_p (x := 0) (y := 1) (a := a) (b := b) (n := n) (c := c) hS1 (by decide) a6 (by omega) (by omega) ?_ (fun s hs hne => ?_) (fun k hk => ?_) (fun k hk => ?_))))
        · rw [m1 _ (by decide) (by decide)]
          rfl
        · rw [m1 _ (by omega) (by omega), up_n (by omega)]
        · rw [m2 k hk]
          rfl
        · rw [m3 k hk]
          rfl
      · have qe := eq_false hww
        refine b_X10_paste_0_c0_c1 ?_
        simp (disch := omega) only [pk_mul, nI_add, ksub, kdv, kd8, kd64, kd2, kd3, km8, km64, kt8, ke8, ke64, kcl, kin, kle, klt, keq, up_s, up_n, up_u, true_and, and_true, false_implies, true_implies, not_false_eq_true, not_true_eq_false, b1, b2, b3, n10, g1, g2, g3, qe]
        refine b_X11_paste_73 ?_
        simp (disch := omega) only [pk_mul, nI_add, ksub, kdv, kd8, kd64, kd2, kd3, km8, km64, kt8, ke8, ke64, kcl, kin, kle, klt, keq, up_s, up_n, up_u, true_and, and_true, false_implies, true_implies, not_false_eq_true, not_true_eq_false, kzl, kl3, knl, gx, gy, eq_self, a4, a5, qw, d4, d5, qw2, qe]
        exact hQ _ _ _ f1
theorem w_paste_0_2 {B : tw → Nat × Nat × (Nat → Nat)} {e : am_V} {I : Nat → Nat → Int32} {L : Nat → Nat → Int64} {t : tw} {m : Nat} {v2 v4 v5 : Int32} {Q : Int32 → Int32 → (Nat → Nat → Int32) → (Nat → Nat → Int64) → Prop} (hR : Rel B e t I L m) (hQ : ∀ r J M, Rel B e t J M m → Q r r J M) : C_X10_paste_0 e (nI 0) v2 (nI 2) v4 v5 I L (fun r J M => C_X11_paste_73 e (nI 0) v2 (nI 2) v4 v5 J M (fun r' K N => Q r r' K N)) := by
  have f1 : Rel B e t (va_up I 73 (va_up (I 73) 0 (nI 0))) L m := Rel_q hR (fr_73 (fr_refl _ _ _) rfl) (frL_r L) (Nat.le_refl _)
  have hS := hR.2.2.2.2.1
  have hS1 := f1.2.2.2.2.1
  have gx : (0 ≤ 3) = True := eq_true (by decide)
  have gy : (2 ≤ 3) = True := eq_true (by decide)
  have q2 : ((-1 : Int32) = (-1 : Int32)) = True := eq_true rfl
  have n00 : ((0 : Nat) = 0) = True := eq_true rfl
  rcases hS 0 (by decide) with ⟨a1, a2⟩ | ⟨w, c, hw, hc, a1, a2, a3, a4, a5, a6⟩
  · have b1 : I 29 1 = nI 0 := a1
    refine b_X10_paste_0_c0_c2 ?_
    simp (disch := omega) only [pk_mul, nI_add, ksub, kdv, kd8, kd64, kd2, kd3, km8, km64, kt8, ke8, ke64, kcl, kin, kle, klt, keq, up_s, up_n, up_u, true_and, and_true, false_implies, true_implies, not_false_eq_true, not_true_eq_false, b1, n00]
    refine b_X11_paste_73 ?_
    simp (disch := omega) only [pk_mul, nI_add, ksub, kdv, kd8, kd64, kd2, kd3, km8, km64, kt8, ke8, ke64, kcl, kin, kle, klt, keq, up_s, up_n, up_u, true_and, and_true, false_implies, true_implies, not_false_eq_true, not_true_eq_false, kzl, kl3, knl, gx, gy, eq_self, a2, q2]
    exact hQ _ _ _ f1
  · have b1 : I 29 1 = nI 1 := a1
    have b2 : I 29 2 = nI w := a2
    have b3 : I 29 3 = nI c := a3
    have qw := km1 (n := w) (by omega)
    rcases hS 2 (by decide) with ⟨d1, d2⟩ | ⟨w2, c2, hw2, hc2, d1, d2, d3, d4, d5, d6⟩
    · have g1 : I 33 1 = nI 0 := d1
      refine b_X10_paste_0_c0_c2 ?_
      simp (disch := omega) only [pk_mul, nI_add, ksub, kdv, kd8, kd64, kd2, kd3, km8, km64, kt8, ke8, ke64, kcl, kin, kle, klt, keq, up_s, up_n, up_u, true_and, and_true, false_implies, true_implies, not_false_eq_true, not_true_eq_false, b1, g1, n10, n00]
      refine b_X11_paste_73 ?_
      simp (disch := omega) only [pk_mul, nI_add, ksub, kdv, kd8, kd64, kd2, kd3, km8, km64, kt8, ke8, ke64, kcl, kin, kle, klt, keq, up_s, up_n, up_u, true_and, and_true, false_implies, true_implies, not_false_eq_true, not_true_eq_false, kzl, kl3, knl, gx, gy, eq_self, a4, qw, d2, q2]
      exact hQ _ _ _ f1
    · have g1 : I 33 1 = nI 1 := d1
      have g2 : I 33 2 = nI w2 := d2
      have g3 : I 33 3 = nI c2 := d3
      have qw2 := km1 (n := w2) (by omega)
      by_cases hww : w = w2
      · have qe := eq_true hww
        by_cases z2 : v2 < nI 0
        · skip
          refine b_X10_paste_0_c0_c2 ?_
          simp (disch := omega) only [pk_mul, nI_add, ksub, kdv, kd8, kd64, kd2, kd3, km8, km64, kt8, ke8, ke64, kcl, kin, kle, klt, keq, up_s, up_n, up_u, true_and, and_true, false_implies, true_implies, not_false_eq_true, not_true_eq_false, b1, b2, b3, n10, g1, g2, g3, qe, z2]
          repeat' (first | refine And.intro (fun _ => ?_) (fun _ => ?_) | (refine b_X11_paste_73 ?_; simp (disch := omega) only [pk_mul, nI_add, ksub, kdv, kd8, kd64, kd2, kd3, km8, km64, kt8, ke8, ke64, kcl, kin, kle, klt, keq, up_s, up_n, up_u, true_and, and_true, false_implies, true_implies, not_false_eq_true, not_true_eq_false, kzl, kl3, knl, gx, gy, eq_self, a4, a5, qw, d4, d5, qw2, qe, z2]; repeat' (first | exact hQ _ _ _ f1 | refine And.intro (fun _ => ?_) (fun _ => ?_))))
        by_cases z4 : v4 < nI 0
        · skip
          refine b_X10_paste_0_c0_c2 ?_
          simp (disch := omega) only [pk_mul, nI_add, ksub, kdv, kd8, kd64, kd2, kd3, km8, km64, kt8, ke8, ke64, kcl, kin, kle, klt, keq, up_s, up_n, up_u, true_and, and_true, false_implies, true_implies, not_false_eq_true, not_true_eq_false, b1, b2, b3, n10, g1, g2, g3, qe, z2, z4]
          repeat' (first | refine And.intro (fun _ => ?_) (fun _ => ?_) | (refine b_X11_paste_73 ?_; simp (disch := omega) only [pk_mul, nI_add, ksub, kdv, kd8, kd64, kd2, kd3, km8, km64, kt8, ke8, ke64, kcl, kin, kle, klt, keq, up_s, up_n, up_u, true_and, and_true, false_implies, true_implies, not_false_eq_true, not_true_eq_false, kzl, kl3, knl, gx, gy, eq_self, a4, a5, qw, d4, d5, qw2, qe, z2, z4]; repeat' (first | exact hQ _ _ _ f1 | refine And.intro (fun _ => ?_) (fun _ => ?_))))
        by_cases z5 : v5 < nI 0
        · skip
          refine b_X10_paste_0_c0_c2 ?_
          simp (disch := omega) only [pk_mul, nI_add, ksub, kdv, kd8, kd64, kd2, kd3, km8, km64, kt8, ke8, ke64, kcl, kin, kle, klt, keq, up_s, up_n, up_u, true_and, and_true, false_implies, true_implies, not_false_eq_true, not_true_eq_false, b1, b2, b3, n10, g1, g2, g3, qe, z2, z4, z5]
          repeat' (first | refine And.intro (fun _ => ?_) (fun _ => ?_) | (refine b_X11_paste_73 ?_; simp (disch := omega) only [pk_mul, nI_add, ksub, kdv, kd8, kd64, kd2, kd3, km8, km64, kt8, ke8, ke64, kcl, kin, kle, klt, keq, up_s, up_n, up_u, true_and, and_true, false_implies, true_implies, not_false_eq_true, not_true_eq_false, kzl, kl3, knl, gx, gy, eq_self, a4, a5, qw, d4, d5, qw2, qe, z2, z4, z5]; repeat' (first | exact hQ _ _ _ f1 | refine And.intro (fun _ => ?_) (fun _ => ?_))))
        obtain ⟨a, ha, rfl⟩ := nI_of z2
        obtain ⟨b, hb, rfl⟩ := nI_of z4
        obtain ⟨n, hn, rfl⟩ := nI_of z5
        by_cases h1 : c < n
        · have k1 := eq_true h1
          have k2 : (c < a + n) = True := eq_true (by omega)
          refine b_X10_paste_0_c0_c2 ?_
          simp (disch := omega) only [pk_mul, nI_add, ksub, kdv, kd8, kd64, kd2, kd3, km8, km64, kt8, ke8, ke64, kcl, kin, kle, klt, keq, up_s, up_n, up_u, true_and, and_true, false_implies, true_implies, not_false_eq_true, not_true_eq_false, b1, b2, b3, n10, g1, g2, g3, qe, knl, k1]
          repeat' (first | refine And.intro (fun _ => ?_) (fun _ => ?_) | (refine b_X11_paste_73 ?_; simp (disch := omega) only [pk_mul, nI_add, ksub, kdv, kd8, kd64, kd2, kd3, km8, km64, kt8, ke8, ke64, kcl, kin, kle, klt, keq, up_s, up_n, up_u, true_and, and_true, false_implies, true_implies, not_false_eq_true, not_true_eq_false, kzl, kl3, knl, gx, gy, eq_self, a4, a5, qw, d4, d5, qw2, qe, kadd, k2]; repeat' (first | exact hQ _ _ _ f1 | refine And.intro (fun _ => ?_) (fun _ => ?_))))
        have k1 := eq_false h1
        by_cases h2 : c - n < a
        · have k3 := eq_true h2
          have k2 : (c < a + n) = True := eq_true (by omega)
          refine b_X10_paste_0_c0_c2 ?_
          simp (disch := omega) only [pk_mul, nI_add, ksub, kdv, kd8, kd64, kd2, kd3, km8, km64, kt8, ke8, ke64, kcl, kin, kle, klt, keq, up_s, up_n, up_u, true_and, and_true, false_implies, true_implies, not_false_eq_true, not_true_eq_false, b1, b2, b3, n10, g1, g2, g3, qe, knl, k1, k3]
          repeat' (first | refine And.intro (fun _ => ?_) (fun _ => ?_) | (refine b_X11_paste_73 ?_; simp (disch := omega) only [pk_mul, nI_add, ksub, kdv, kd8, kd64, kd2, kd3, km8, km64, kt8, ke8, ke64, kcl, kin, kle, klt, keq, up_s, up_n, up_u, true_and, and_true, false_implies, true_implies, not_false_eq_true, not_true_eq_false, kzl, kl3, knl, gx, gy, eq_self, a4, a5, qw, d4, d5, qw2, qe, kadd, k2]; repeat' (first | exact hQ _ _ _ f1 | refine And.intro (fun _ => ?_) (fun _ => ?_))))
        have k3 := eq_false h2
        have k2 : (c < a + n) = False := eq_false (by omega)
        by_cases h3 : c2 < n
        · have k4 := eq_true h3
          have k5 : (c2 < b + n) = True := eq_true (by omega)
          refine b_X10_paste_0_c0_c2 ?_
          simp (disch := omega) only [pk_mul, nI_add, ksub, kdv, kd8, kd64, kd2, kd3, km8, km64, kt8, ke8, ke64, kcl, kin, kle, klt, keq, up_s, up_n, up_u, true_and, and_true, false_implies, true_implies, not_false_eq_true, not_true_eq_false, b1, b2, b3, n10, g1, g2, g3, qe, knl, k1, k3, k4]
          repeat' (first | refine And.intro (fun _ => ?_) (fun _ => ?_) | (refine b_X11_paste_73 ?_; simp (disch := omega) only [pk_mul, nI_add, ksub, kdv, kd8, kd64, kd2, kd3, km8, km64, kt8, ke8, ke64, kcl, kin, kle, klt, keq, up_s, up_n, up_u, true_and, and_true, false_implies, true_implies, not_false_eq_true, not_true_eq_false, kzl, kl3, knl, gx, gy, eq_self, a4, a5, qw, d4, d5, qw2, qe, kadd, k2, k5]; repeat' (first | exact hQ _ _ _ f1 | refine And.intro (fun _ => ?_) (fun _ => ?_))))
        have k4 := eq_false h3
        by_cases h4 : c2 - n < b
        · have k6 := eq_true h4
          have k5 : (c2 < b + n) = True := eq_true (by omega)
          refine b_X10_paste_0_c0_c2 ?_
          simp (disch := omega) only [pk_mul, nI_add, ksub, kdv, kd8, kd64, kd2, kd3, km8, km64, kt8, ke8, ke64, kcl, kin, kle, klt, keq, up_s, up_n, up_u, true_and, and_true, false_implies, true_implies, not_false_eq_true, not_true_eq_false, b1, b2, b3, n10, g1, g2, g3, qe, knl, k1, k3, k4, k6]
          repeat' (first | refine And.intro (fun _ => ?_) (fun _ => ?_) | (refine b_X11_paste_73 ?_; simp (disch := omega) only [pk_mul, nI_add, ksub, kdv, kd8, kd64, kd2, kd3, km8, km64, kt8, ke8, ke64, kcl, kin, kle, klt, keq, up_s, up_n, up_u, true_and, and_true, false_implies, true_implies, not_false_eq_true, not_true_eq_false, kzl, kl3, knl, gx, gy, eq_self, a4, a5, qw, d4, d5, qw2, qe, kadd, k2, k5]; repeat' (first | exact hQ _ _ _ f1 | refine And.intro (fun _ => ?_) (fun _ => ?_))))
        have k6 := eq_false h4
        have k5 : (c2 < b + n) = False := eq_false (by omega)
        have z1 : (a + n ≤ 60) = True := eq_true (by omega)
        have z3 : (b + n ≤ 60) = True := eq_true (by omega)
        have nz : ∀ k : Nat, k < 2147483648 → (nI k < 0) = False := fun k hk => by
          have h9 : (nI k < nI 0) = (k < 0) := klt (by omega) (by omega)
          rw [knl] at h9
          exact h9
        refine b_X10_paste_0_c0_c2 ?_
        simp (disch := omega) only [pk_mul, nI_add, ksub, kdv, kd8, kd64, kd2, kd3, km8, km64, kt8, ke8, ke64, kcl, kin, kle, klt, keq, up_s, up_n, up_u, true_and, and_true, false_implies, true_implies, not_false_eq_true, not_true_eq_false, b1, b2, b3, n10, g1, g2, g3, qe, knl, k1, k3, k4, k6, z1, z3, nz]
        refine b_X11_paste_73 ?_
        simp (disch := omega) only [pk_mul, nI_add, ksub, kdv, kd8, kd64, kd2, kd3, km8, km64, kt8, ke8, ke64, kcl, kin, kle, klt, keq, up_s, up_n, up_u, true_and, and_true, false_implies, true_implies, not_false_eq_true, not_true_eq_false, kzl, kl3, knl, gx, gy, eq_self, a4, a5, qw, d4, d5, qw2, qe, kadd, k2, k5]
        refine m_paste (by decide) (by decide) (by omega) (by omega) (fun M m1 m2 m3 => hQ _ _ _ (Rel_L f1 (SL_p (x := 0) (y := 2) (a := a) (b := b) (n := n) (c := c) hS1 (by decide) a6 (by omega) (by omega) ?_ (fun s hs hne => ?_) (fun k hk => ?_) (fun k hk => ?_))))
        · rw [m1 _ (by decide) (by decide)]
          rfl
        · rw [m1 _ (by omega) (by omega), up_n (by omega)]
        · rw [m2 k hk]
          rfl
        · rw [m3 k hk]
          rfl
      · have qe := eq_false hww
        refine b_X10_paste_0_c0_c2 ?_
        simp (disch := omega) only [pk_mul, nI_add, ksub, kdv, kd8, kd64, kd2, kd3, km8, km64, kt8, ke8, ke64, kcl, kin, kle, klt, keq, up_s, up_n, up_u, true_and, and_true, false_implies, true_implies, not_false_eq_true, not_true_eq_false, b1, b2, b3, n10, g1, g2, g3, qe]
        refine b_X11_paste_73 ?_
        simp (disch := omega) only [pk_mul, nI_add, ksub, kdv, kd8, kd64, kd2, kd3, km8, km64, kt8, ke8, ke64, kcl, kin, kle, klt, keq, up_s, up_n, up_u, true_and, and_true, false_implies, true_implies, not_false_eq_true, not_true_eq_false, kzl, kl3, knl, gx, gy, eq_self, a4, a5, qw, d4, d5, qw2, qe]
        exact hQ _ _ _ f1
theorem w_paste_0_3 {B : tw → Nat × Nat × (Nat → Nat)} {e : am_V} {I : Nat → Nat → Int32} {L : Nat → Nat → Int64} {t : tw} {m : Nat} {v2 v4 v5 : Int32} {Q : Int32 → Int32 → (Nat → Nat → Int32) → (Nat → Nat → Int64) → Prop} (hR : Rel B e t I L m) (hQ : ∀ r J M, Rel B e t J M m → Q r r J M) : C_X10_paste_0 e (nI 0) v2 (nI 3) v4 v5 I L (fun r J M => C_X11_paste_73 e (nI 0) v2 (nI 3) v4 v5 J M (fun r' K N => Q r r' K N)) := by
  have f1 : Rel B e t (va_up I 73 (va_up (I 73) 0 (nI 0))) L m := Rel_q hR (fr_73 (fr_refl _ _ _) rfl) (frL_r L) (Nat.le_refl _)
  have hS := hR.2.2.2.2.1
  have hS1 := f1.2.2.2.2.1
  have gx : (0 ≤ 3) = True := eq_true (by decide)
  have gy : (3 ≤ 3) = True := eq_true (by decide)
  have q2 : ((-1 : Int32) = (-1 : Int32)) = True := eq_true rfl
  have n00 : ((0 : Nat) = 0) = True := eq_true rfl
  rcases hS 0 (by decide) with ⟨a1, a2⟩ | ⟨w, c, hw, hc, a1, a2, a3, a4, a5, a6⟩
  · have b1 : I 29 1 = nI 0 := a1
    refine b_X10_paste_0_c0_c3 ?_
    simp (disch := omega) only [pk_mul, nI_add, ksub, kdv, kd8, kd64, kd2, kd3, km8, km64, kt8, ke8, ke64, kcl, kin, kle, klt, keq, up_s, up_n, up_u, true_and, and_true, false_implies, true_implies, not_false_eq_true, not_true_eq_false, b1, n00]
    refine b_X11_paste_73 ?_
    simp (disch := omega) only [pk_mul, nI_add, ksub, kdv, kd8, kd64, kd2, kd3, km8, km64, kt8, ke8, ke64, kcl, kin, kle, klt, keq, up_s, up_n, up_u, true_and, and_true, false_implies, true_implies, not_false_eq_true, not_true_eq_false, kzl, kl3, knl, gx, gy, eq_self, a2, q2]
    exact hQ _ _ _ f1
  · have b1 : I 29 1 = nI 1 := a1
    have b2 : I 29 2 = nI w := a2
    have b3 : I 29 3 = nI c := a3
    have qw := km1 (n := w) (by omega)
    rcases hS 3 (by decide) with ⟨d1, d2⟩ | ⟨w2, c2, hw2, hc2, d1, d2, d3, d4, d5, d6⟩
    · have g1 : I 35 1 = nI 0 := d1
      refine b_X10_paste_0_c0_c3 ?_
      simp (disch := omega) only [pk_mul, nI_add, ksub, kdv, kd8, kd64, kd2, kd3, km8, km64, kt8, ke8, ke64, kcl, kin, kle, klt, keq, up_s, up_n, up_u, true_and, and_true, false_implies, true_implies, not_false_eq_true, not_true_eq_false, b1, g1, n10, n00]
      refine b_X11_paste_73 ?_
      simp (disch := omega) only [pk_mul, nI_add, ksub, kdv, kd8, kd64, kd2, kd3, km8, km64, kt8, ke8, ke64, kcl, kin, kle, klt, keq, up_s, up_n, up_u, true_and, and_true, false_implies, true_implies, not_false_eq_true, not_true_eq_false, kzl, kl3, knl, gx, gy, eq_self, a4, qw, d2, q2]
      exact hQ _ _ _ f1
    · have g1 : I 35 1 = nI 1 := d1
      have g2 : I 35 2 = nI w2 := d2
      have g3 : I 35 3 = nI c2 := d3
      have qw2 := km1 (n := w2) (by omega)
      by_cases hww : w = w2
      · have qe := eq_true hww
        by_cases z2 : v2 < nI 0
        · skip
          refine b_X10_paste_0_c0_c3 ?_
          simp (disch := omega) only [pk_mul, nI_add, ksub, kdv, kd8, kd64, kd2, kd3, km8, km64, kt8, ke8, ke64, kcl, kin, kle, klt, keq, up_s, up_n, up_u, true_and, and_true, false_implies, true_implies, not_false_eq_true, not_true_eq_false, b1, b2, b3, n10, g1, g2, g3, qe, z2]
          repeat' (first | refine And.intro (fun _ => ?_) (fun _ => ?_) | (refine b_X11_paste_73 ?_; simp (disch := omega) only [pk_mul, nI_add, ksub, kdv, kd8, kd64, kd2, kd3, km8, km64, kt8, ke8, ke64, kcl, kin, kle, klt, keq, up_s, up_n, up_u, true_and, and_true, false_implies, true_implies, not_false_eq_true, not_true_eq_false, kzl, kl3, knl, gx, gy, eq_self, a4, a5, qw, d4, d5, qw2, qe, z2]; repeat' (first | exact hQ _ _ _ f1 | refine And.intro (fun _ => ?_) (fun _ => ?_))))
        by_cases z4 : v4 < nI 0
        · skip
          refine b_X10_paste_0_c0_c3 ?_
          simp (disch := omega) only [pk_mul, nI_add, ksub, kdv, kd8, kd64, kd2, kd3, km8, km64, kt8, ke8, ke64, kcl, kin, kle, klt, keq, up_s, up_n, up_u, true_and, and_true, false_implies, true_implies, not_false_eq_true, not_true_eq_false, b1, b2, b3, n10, g1, g2, g3, qe, z2, z4]
          repeat' (first | refine And.intro (fun _ => ?_) (fun _ => ?_) | (refine b_X11_paste_73 ?_; simp (disch := omega) only [pk_mul, nI_add, ksub, kdv, kd8, kd64, kd2, kd3, km8, km64, kt8, ke8, ke64, kcl, kin, kle, klt, keq, up_s, up_n, up_u, true_and, and_true, false_implies, true_implies, not_false_eq_true, not_true_eq_false, kzl, kl3, knl, gx, gy, eq_self, a4, a5, qw, d4, d5, qw2, qe, z2, z4]; repeat' (first | exact hQ _ _ _ f1 | refine And.intro (fun _ => ?_) (fun _ => ?_))))
        by_cases z5 : v5 < nI 0
        · skip
          refine b_X10_paste_0_c0_c3 ?_
          simp (disch := omega) only [pk_mul, nI_add, ksub, kdv, kd8, kd64, kd2, kd3, km8, km64, kt8, ke8, ke64, kcl, kin, kle, klt, keq, up_s, up_n, up_u, true_and, and_true, false_implies, true_implies, not_false_eq_true, not_true_eq_false, b1, b2, b3, n10, g1, g2, g3, qe, z2, z4, z5]
          repeat' (first | refine And.intro (fun _ => ?_) (fun _ => ?_) | (refine b_X11_paste_73 ?_; simp (disch := omega) only [pk_mul, nI_add, ksub, kdv, kd8, kd64, kd2, kd3, km8, km64, kt8, ke8, ke64, kcl, kin, kle, klt, keq, up_s, up_n, up_u, true_and, and_true, false_implies, true_implies, not_false_eq_true, not_true_eq_false, kzl, kl3, knl, gx, gy, eq_self, a4, a5, qw, d4, d5, qw2, qe, z2, z4, z5]; repeat' (first | exact hQ _ _ _ f1 | refine And.intro (fun _ => ?_) (fun _ => ?_))))
        obtain ⟨a, ha, rfl⟩ := nI_of z2
        obtain ⟨b, hb, rfl⟩ := nI_of z4
        obtain ⟨n, hn, rfl⟩ := nI_of z5
        by_cases h1 : c < n
        · have k1 := eq_true h1
          have k2 : (c < a + n) = True := eq_true (by omega)
          refine b_X10_paste_0_c0_c3 ?_
          simp (disch := omega) only [pk_mul, nI_add, ksub, kdv, kd8, kd64, kd2, kd3, km8, km64, kt8, ke8, ke64, kcl, kin, kle, klt, keq, up_s, up_n, up_u, true_and, and_true, false_implies, true_implies, not_false_eq_true, not_true_eq_false, b1, b2, b3, n10, g1, g2, g3, qe, knl, k1]
          repeat' (first | refine And.intro (fun _ => ?_) (fun _ => ?_) | (refine b_X11_paste_73 ?_; simp (disch := omega) only [pk_mul, nI_add, ksub, kdv, kd8, kd64, kd2, kd3, km8, km64, kt8, ke8, ke64, kcl, kin, kle, klt, keq, up_s, up_n, up_u, true_and, and_true, false_implies, true_implies, not_false_eq_true, not_true_eq_false, kzl, kl3, knl, gx, gy, eq_self, a4, a5, qw, d4, d5, qw2, qe, kadd, k2]; repeat' (first | exact hQ _ _ _ f1 | refine And.intro (fun _ => ?_) (fun _ => ?_))))
        have k1 := eq_false h1
        by_cases h2 : c - n < a
        · have k3 := eq_true h2
          have k2 : (c < a + n) = True := eq_true (by omega)
          refine b_X10_paste_0_c0_c3 ?_
          simp (disch := omega) only [pk_mul, nI_add, ksub, kdv, kd8, kd64, kd2, kd3, km8, km64, kt8, ke8, ke64, kcl, kin, kle, klt, keq, up_s, up_n, up_u, true_and, and_true, false_implies, true_implies, not_false_eq_true, not_true_eq_false, b1, b2, b3, n10, g1, g2, g3, qe, knl, k1, k3]
          repeat' (first | refine And.intro (fun _ => ?_) (fun _ => ?_) | (refine b_X11_paste_73 ?_; simp (disch := omega) only [pk_mul, nI_add, ksub, kdv, kd8, kd64, kd2, kd3, km8, km64, kt8, ke8, ke64, kcl, kin, kle, klt, keq, up_s, up_n, up_u, true_and, and_true, false_implies, true_implies, not_false_eq_true, not_true_eq_false, kzl, kl3, knl, gx, gy, eq_self, a4, a5, qw, d4, d5, qw2, qe, kadd, k2]; repeat' (first | exact hQ _ _ _ f1 | refine And.intro (fun _ => ?_) (fun _ => ?_))))
        have k3 := eq_false h2
        have k2 : (c < a + n) = False := eq_false (by omega)
        by_cases h3 : c2 < n
        · have k4 := eq_true h3
          have k5 : (c2 < b + n) = True := eq_true (by omega)
          refine b_X10_paste_0_c0_c3 ?_
          simp (disch := omega) only [pk_mul, nI_add, ksub, kdv, kd8, kd64, kd2, kd3, km8, km64, kt8, ke8, ke64, kcl, kin, kle, klt, keq, up_s, up_n, up_u, true_and, and_true, false_implies, true_implies, not_false_eq_true, not_true_eq_false, b1, b2, b3, n10, g1, g2, g3, qe, knl, k1, k3, k4]
          repeat' (first | refine And.intro (fun _ => ?_) (fun _ => ?_) | (refine b_X11_paste_73 ?_; simp (disch := omega) only [pk_mul, nI_add, ksub, kdv, kd8, kd64, kd2, kd3, km8, km64, kt8, ke8, ke64, kcl, kin, kle, klt, keq, up_s, up_n, up_u, true_and, and_true, false_implies, true_implies, not_false_eq_true, not_true_eq_false, kzl, kl3, knl, gx, gy, eq_self, a4, a5, qw, d4, d5, qw2, qe, kadd, k2, k5]; repeat' (first | exact hQ _ _ _ f1 | refine And.intro (fun _ => ?_) (fun _ => ?_))))
        have k4 := eq_false h3
        by_cases h4 : c2 - n < b
        · have k6 := eq_true h4
          have k5 : (c2 < b + n) = True := eq_true (by omega)
          refine b_X10_paste_0_c0_c3 ?_
          simp (disch := omega) only [pk_mul, nI_add, ksub, kdv, kd8, kd64, kd2, kd3, km8, km64, kt8, ke8, ke64, kcl, kin, kle, klt, keq, up_s, up_n, up_u, true_and, and_true, false_implies, true_implies, not_false_eq_true, not_true_eq_false, b1, b2, b3, n10, g1, g2, g3, qe, knl, k1, k3, k4, k6]
          repeat' (first | refine And.intro (fun _ => ?_) (fun _ => ?_) | (refine b_X11_paste_73 ?_; simp (disch := omega) only [pk_mul, nI_add, ksub, kdv, kd8, kd64, kd2, kd3, km8, km64, kt8, ke8, ke64, kcl, kin, kle, klt, keq, up_s, up_n, up_u, true_and, and_true, false_implies, true_implies, not_false_eq_true, not_true_eq_false, kzl, kl3, knl, gx, gy, eq_self, a4, a5, qw, d4, d5, qw2, qe, kadd, k2, k5]; repeat' (first | exact hQ _ _ _ f1 | refine And.intro (fun _ => ?_) (fun _ => ?_))))
        have k6 := eq_false h4
        have k5 : (c2 < b + n) = False := eq_false (by omega)
        have z1 : (a + n ≤ 60) = True := eq_true (by omega)
        have z3 : (b + n ≤ 60) = True := eq_true (by omega)
        have nz : ∀ k : Nat, k < 2147483648 → (nI k < 0) = False := fun k hk => by
          have h9 : (nI k < nI 0) = (k < 0) := klt (by omega) (by omega)
          rw [knl] at h9
          exact h9
        refine b_X10_paste_0_c0_c3 ?_
        simp (disch := omega) only [pk_mul, nI_add, ksub, kdv, kd8, kd64, kd2, kd3, km8, km64, kt8, ke8, ke64, kcl, kin, kle, klt, keq, up_s, up_n, up_u, true_and, and_true, false_implies, true_implies, not_false_eq_true, not_true_eq_false, b1, b2, b3, n10, g1, g2, g3, qe, knl, k1, k3, k4, k6, z1, z3, nz]
        refine b_X11_paste_73 ?_
        simp (disch := omega) only [pk_mul, nI_add, ksub, kdv, kd8, kd64, kd2, kd3, km8, km64, kt8, ke8, ke64, kcl, kin, kle, klt, keq, up_s, up_n, up_u, true_and, and_true, false_implies, true_implies, not_false_eq_true, not_true_eq_false, kzl, kl3, knl, gx, gy, eq_self, a4, a5, qw, d4, d5, qw2, qe, kadd, k2, k5]
        refine m_paste (by decide) (by decide) (by omega) (by omega) (fun M m1 m2 m3 => hQ _ _ _ (Rel_L f1 (SL_p (x := 0) (y := 3) (a := a) (b := b) (n := n) (c := c) hS1 (by decide) a6 (by omega) (by omega) ?_ (fun s hs hne => ?_) (fun k hk => ?_) (fun k hk => ?_))))
        · rw [m1 _ (by decide) (by decide)]
          rfl
        · rw [m1 _ (by omega) (by omega), up_n (by omega)]
        · rw [m2 k hk]
          rfl
        · rw [m3 k hk]
          rfl
      · have qe := eq_false hww
        refine b_X10_paste_0_c0_c3 ?_
        simp (disch := omega) only [pk_mul, nI_add, ksub, kdv, kd8, kd64, kd2, kd3, km8, km64, kt8, ke8, ke64, kcl, kin, kle, klt, keq, up_s, up_n, up_u, true_and, and_true, false_implies, true_implies, not_false_eq_true, not_true_eq_false, b1, b2, b3, n10, g1, g2, g3, qe]
        refine b_X11_paste_73 ?_
        simp (disch := omega) only [pk_mul, nI_add, ksub, kdv, kd8, kd64, kd2, kd3, km8, km64, kt8, ke8, ke64, kcl, kin, kle, klt, keq, up_s, up_n, up_u, true_and, and_true, false_implies, true_implies, not_false_eq_true, not_true_eq_false, kzl, kl3, knl, gx, gy, eq_self, a4, a5, qw, d4, d5, qw2, qe]
        exact hQ _ _ _ f1
theorem w_paste_1_0 {B : tw → Nat × Nat × (Nat → Nat)} {e : am_V} {I : Nat → Nat → Int32} {L : Nat → Nat → Int64} {t : tw} {m : Nat} {v2 v4 v5 : Int32} {Q : Int32 → Int32 → (Nat → Nat → Int32) → (Nat → Nat → Int64) → Prop} (hR : Rel B e t I L m) (hQ : ∀ r J M, Rel B e t J M m → Q r r J M) : C_X10_paste_0 e (nI 1) v2 (nI 0) v4 v5 I L (fun r J M => C_X11_paste_73 e (nI 1) v2 (nI 0) v4 v5 J M (fun r' K N => Q r r' K N)) := by
  have f1 : Rel B e t (va_up I 73 (va_up (I 73) 0 (nI 0))) L m := Rel_q hR (fr_73 (fr_refl _ _ _) rfl) (frL_r L) (Nat.le_refl _)
  have hS := hR.2.2.2.2.1
  have hS1 := f1.2.2.2.2.1
  have gx : (1 ≤ 3) = True := eq_true (by decide)
  have gy : (0 ≤ 3) = True := eq_true (by decide)
  have q2 : ((-1 : Int32) = (-1 : Int32)) = True := eq_true rfl
  have n00 : ((0 : Nat) = 0) = True := eq_true rfl
  rcases hS 1 (by decide) with ⟨a1, a2⟩ | ⟨w, c, hw, hc, a1, a2, a3, a4, a5, a6⟩
  · have b1 : I 31 1 = nI 0 := a1
    refine b_X10_paste_0_c1_c0 ?_
    simp (disch := omega) only [pk_mul, nI_add, ksub, kdv, kd8, kd64, kd2, kd3, km8, km64, kt8, ke8, ke64, kcl, kin, kle, klt, keq, up_s, up_n, up_u, true_and, and_true, false_implies, true_implies, not_false_eq_true, not_true_eq_false, b1, n00]
    refine b_X11_paste_73 ?_
    simp (disch := omega) only [pk_mul, nI_add, ksub, kdv, kd8, kd64, kd2, kd3, km8, km64, kt8, ke8, ke64, kcl, kin, kle, klt, keq, up_s, up_n, up_u, true_and, and_true, false_implies, true_implies, not_false_eq_true, not_true_eq_false, kzl, kl3, knl, gx, gy, eq_self, a2, q2]
    exact hQ _ _ _ f1
  · have b1 : I 31 1 = nI 1 := a1
    have b2 : I 31 2 = nI w := a2
    have b3 : I 31 3 = nI c := a3
    have qw := km1 (n := w) (by omega)
    rcases hS 0 (by decide) with ⟨d1, d2⟩ | ⟨w2, c2, hw2, hc2, d1, d2, d3, d4, d5, d6⟩
    · have g1 : I 29 1 = nI 0 := d1
      refine b_X10_paste_0_c1_c0 ?_
      simp (disch := omega) only [pk_mul, nI_add, ksub, kdv, kd8, kd64, kd2, kd3, km8, km64, kt8, ke8, ke64, kcl, kin, kle, klt, keq, up_s, up_n, up_u, true_and, and_true, false_implies, true_implies, not_false_eq_true, not_true_eq_false, b1, g1, n10, n00]
      refine b_X11_paste_73 ?_
      simp (disch := omega) only [pk_mul, nI_add, ksub, kdv, kd8, kd64, kd2, kd3, km8, km64, kt8, ke8, ke64, kcl, kin, kle, klt, keq, up_s, up_n, up_u, true_and, and_true, false_implies, true_implies, not_false_eq_true, not_true_eq_false, kzl, kl3, knl, gx, gy, eq_self, a4, qw, d2, q2]
      exact hQ _ _ _ f1
    · have g1 : I 29 1 = nI 1 := d1
      have g2 : I 29 2 = nI w2 := d2
      have g3 : I 29 3 = nI c2 := d3
      have qw2 := km1 (n := w2) (by omega)
      by_cases hww : w = w2
      · have qe := eq_true hww
        by_cases z2 : v2 < nI 0
        · skip
          refine b_X10_paste_0_c1_c0 ?_
          simp (disch := omega) only [pk_mul, nI_add, ksub, kdv, kd8, kd64, kd2, kd3, km8, km64, kt8, ke8, ke64, kcl, kin, kle, klt, keq, up_s, up_n, up_u, true_and, and_true, false_implies, true_implies, not_false_eq_true, not_true_eq_false, b1, b2, b3, n10, g1, g2, g3, qe, z2]
          repeat' (first | refine And.intro (fun _ => ?_) (fun _ => ?_) | (refine b_X11_paste_73 ?_; simp (disch := omega) only [pk_mul, nI_add, ksub, kdv, kd8, kd64, kd2, kd3, km8, km64, kt8, ke8, ke64, kcl, kin, kle, klt, keq, up_s, up_n, up_u, true_and, and_true, false_implies, true_implies, not_false_eq_true, not_true_eq_false, kzl, kl3, knl, gx, gy, eq_self, a4, a5, qw, d4, d5, qw2, qe, z2]; repeat' (first | exact hQ _ _ _ f1 | refine And.intro (fun _ => ?_) (fun _ => ?_))))
        by_cases z4 : v4 < nI 0
        · skip
          refine b_X10_paste_0_c1_c0 ?_
          simp (disch := omega) only [pk_mul, nI_add, ksub, kdv, kd8, kd64, kd2, kd3, km8, km64, kt8, ke8, ke64, kcl, kin, kle, klt, keq, up_s, up_n, up_u, true_and, and_true, false_implies, true_implies, not_false_eq_true, not_true_eq_false, b1, b2, b3, n10, g1, g2, g3, qe, z2, z4]
          repeat' (first | refine And.intro (fun _ => ?_) (fun _ => ?_) | (refine b_X11_paste_73 ?_; simp (disch := omega) only [pk_mul, nI_add, ksub, kdv, kd8, kd64, kd2, kd3, km8, km64, kt8, ke8, ke64, kcl, kin, kle, klt, keq, up_s, up_n, up_u, true_and, and_true, false_implies, true_implies, not_false_eq_true, not_true_eq_false, kzl, kl3, knl, gx, gy, eq_self, a4, a5, qw, d4, d5, qw2, qe, z2, z4]; repeat' (first | exact hQ _ _ _ f1 | refine And.intro (fun _ => ?_) (fun _ => ?_))))
        by_cases z5 : v5 < nI 0
        · skip
          refine b_X10_paste_0_c1_c0 ?_
          simp (disch := omega) only [pk_mul, nI_add, ksub, kdv, kd8, kd64, kd2, kd3, km8, km64, kt8, ke8, ke64, kcl, kin, kle, klt, keq, up_s, up_n, up_u, true_and, and_true, false_implies, true_implies, not_false_eq_true, not_true_eq_false, b1, b2, b3, n10, g1, g2, g3, qe, z2, z4, z5]
          repeat' (first | refine And.intro (fun _ => ?_) (fun _ => ?_) | (refine b_X11_paste_73 ?_; simp (disch := omega) only [pk_mul, nI_add, ksub, kdv, kd8, kd64, kd2, kd3, km8, km64, kt8, ke8, ke64, kcl, kin, kle, klt, keq, up_s, up_n, up_u, true_and, and_true, false_implies, true_implies, not_false_eq_true, not_true_eq_false, kzl, kl3, knl, gx, gy, eq_self, a4, a5, qw, d4, d5, qw2, qe, z2, z4, z5]; repeat' (first | exact hQ _ _ _ f1 | refine And.intro (fun _ => ?_) (fun _ => ?_))))
        obtain ⟨a, ha, rfl⟩ := nI_of z2
        obtain ⟨b, hb, rfl⟩ := nI_of z4
        obtain ⟨n, hn, rfl⟩ := nI_of z5
        by_cases h1 : c < n
        · have k1 := eq_true h1
          have k2 : (c < a + n) = True := eq_true (by omega)
          refine b_X10_paste_0_c1_c0 ?_
          simp (disch := omega) only [pk_mul, nI_add, ksub, kdv, kd8, kd64, kd2, kd3, km8, km64, kt8, ke8, ke64, kcl, kin, kle, klt, keq, up_s, up_n, up_u, true_and, and_true, false_implies, true_implies, not_false_eq_true, not_true_eq_false, b1, b2, b3, n10, g1, g2, g3, qe, knl, k1]
          repeat' (first | refine And.intro (fun _ => ?_) (fun _ => ?_) | (refine b_X11_paste_73 ?_; simp (disch := omega) only [pk_mul, nI_add, ksub, kdv, kd8, kd64, kd2, kd3, km8, km64, kt8, ke8, ke64, kcl, kin, kle, klt, keq, up_s, up_n, up_u, true_and, and_true, false_implies, true_implies, not_false_eq_true, not_true_eq_false, kzl, kl3, knl, gx, gy, eq_self, a4, a5, qw, d4, d5, qw2, qe, kadd, k2]; repeat' (first | exact hQ _ _ _ f1 | refine And.intro (fun _ => ?_) (fun _ => ?_))))
        have k1 := eq_false h1
        by_cases h2 : c - n < a
        · have k3 := eq_true h2
          have k2 : (c < a + n) = True := eq_true (by omega)
          refine b_X10_paste_0_c1_c0 ?_
          simp (disch := omega) only [pk_mul, nI_add, ksub, kdv, kd8, kd64, kd2, kd3, km8, km64, kt8, ke8, ke64, kcl, kin, kle, klt, keq, up_s, up_n, up_u, true_and, and_true, false_implies, true_implies, not_false_eq_true, not_true_eq_false, b1, b2, b3, n10, g1, g2, g3, qe, knl, k1, k3]
          repeat' (first | refine And.intro (fun _ => ?_) (fun _ => ?_) | (refine b_X11_paste_73 ?_; simp (disch := omega) only [pk_mul, nI_add, ksub, kdv, kd8, kd64, kd2, kd3, km8, km64, kt8, ke8, ke64, kcl, kin, kle, klt, keq, up_s, up_n, up_u, true_and, and_true, false_implies, true_implies, not_false_eq_true, not_true_eq_false, kzl, kl3, knl, gx, gy, eq_self, a4, a5, qw, d4, d5, qw2, qe, kadd, k2]; repeat' (first | exact hQ _ _ _ f1 | refine And.intro (fun _ => ?_) (fun _ => ?_))))
        have k3 := eq_false h2
        have k2 : (c < a + n) = False := eq_false (by omega)
        by_cases h3 : c2 < n
        · have k4 := eq_true h3
          have k5 : (c2 < b + n) = True := eq_true (by omega)
          refine b_X10_paste_0_c1_c0 ?_
          simp (disch := omega) only [pk_mul, nI_add, ksub, kdv, kd8, kd64, kd2, kd3, km8, km64, kt8, ke8, ke64, kcl, kin, kle, klt, keq, up_s, up_n, up_u, true_and, and_true, false_implies, true_implies, not_false_eq_true, not_true_eq_false, b1, b2, b3, n10, g1, g2, g3, qe, knl, k1, k3, k4]
          repeat' (first | refine And.intro (fun _ => ?_) (fun _ => ?_) | (refine b_X11_paste_73 ?_; simp (disch := omega) only [pk_mul, nI_add, ksub, kdv, kd8, kd64, kd2, kd3, km8, km64, kt8, ke8, ke64, kcl, kin, kle, klt, keq, up_s, up_n, up_u, true_and, and_true, false_implies, true_implies, not_false_eq_true, not_true_eq_false, kzl, kl3, knl, gx, gy, eq_self, a4, a5, qw, d4, d5, qw2, qe, kadd, k2, k5]; repeat' (first | exact hQ _ _ _ f1 | refine And.intro (fun _ => ?_) (fun _ => ?_))))
        have k4 := eq_false h3
        by_cases h4 : c2 - n < b
        · have k6 := eq_true h4
          have k5 : (c2 < b + n) = True := eq_true (by omega)
          refine b_X10_paste_0_c1_c0 ?_
          simp (disch := omega) only [pk_mul, nI_add, ksub, kdv, kd8, kd64, kd2, kd3, km8, km64, kt8, ke8, ke64, kcl, kin, kle, klt, keq, up_s, up_n, up_u, true_and, and_true, false_implies, true_implies, not_false_eq_true, not_true_eq_false, b1, b2, b3, n10, g1, g2, g3, qe, knl, k1, k3, k4, k6]
          repeat' (first | refine And.intro (fun _ => ?_) (fun _ => ?_) | (refine b_X11_paste_73 ?_; simp (disch := omega) only [pk_mul, nI_add, ksub, kdv, kd8, kd64, kd2, kd3, km8, km64, kt8, ke8, ke64, kcl, kin, kle, klt, keq, up_s, up_n, up_u, true_and, and_true, false_implies, true_implies, not_false_eq_true, not_true_eq_false, kzl, kl3, knl, gx, gy, eq_self, a4, a5, qw, d4, d5, qw2, qe, kadd, k2, k5]; repeat' (first | exact hQ _ _ _ f1 | refine And.intro (fun _ => ?_) (fun _ => ?_))))
        have k6 := eq_false h4
        have k5 : (c2 < b + n) = False := eq_false (by omega)
        have z1 : (a + n ≤ 60) = True := eq_true (by omega)
        have z3 : (b + n ≤ 60) = True := eq_true (by omega)
        have nz : ∀ k : Nat, k < 2147483648 → (nI k < 0) = False := fun k hk => by
          have h9 : (nI k < nI 0) = (k < 0) := klt (by omega) (by omega)
          rw [knl] at h9
          exact h9
        refine b_X10_paste_0_c1_c0 ?_
        simp (disch := omega) only [pk_mul, nI_add, ksub, kdv, kd8, kd64, kd2, kd3, km8, km64, kt8, ke8, ke64, kcl, kin, kle, klt, keq, up_s, up_n, up_u, true_and, and_true, false_implies, true_implies, not_false_eq_true, not_true_eq_false, b1, b2, b3, n10, g1, g2, g3, qe, knl, k1, k3, k4, k6, z1, z3, nz]
        refine b_X11_paste_73 ?_
        simp (disch := omega) only [pk_mul, nI_add, ksub, kdv, kd8, kd64, kd2, kd3, km8, km64, kt8, ke8, ke64, kcl, kin, kle, klt, keq, up_s, up_n, up_u, true_and, and_true, false_implies, true_implies, not_false_eq_true, not_true_eq_false, kzl, kl3, knl, gx, gy, eq_self, a4, a5, qw, d4, d5, qw2, qe, kadd, k2, k5]
        refine m_paste (by decide) (by decide) (by omega) (by omega) (fun M m1 m2 m3 => hQ _ _ _ (Rel_L f1 (SL_p (x := 1) (y := 0) (a := a) (b := b) (n := n) (c := c) hS1 (by decide) a6 (by omega) (by omega) ?_ (fun s hs hne => ?_) (fun k hk => ?_) (fun k hk => ?_))))
        · rw [m1 _ (by decide) (by decide)]
          rfl
        · rw [m1 _ (by omega) (by omega), up_n (by omega)]
        · rw [m2 k hk]
          rfl
        · rw [m3 k hk]
          rfl
      · have qe := eq_false hww
        refine b_X10_paste_0_c1_c0 ?_
        simp (disch := omega) only [pk_mul, nI_add, ksub, kdv, kd8, kd64, kd2, kd3, km8, km64, kt8, ke8, ke64, kcl, kin, kle, klt, keq, up_s, up_n, up_u, true_and, and_true, false_implies, true_implies, not_false_eq_true, not_true_eq_false, b1, b2, b3, n10, g1, g2, g3, qe]
        refine b_X11_paste_73 ?_
        simp (disch := omega) only [pk_mul, nI_add, ksub, kdv, kd8, kd64, kd2, kd3, km8, km64, kt8, ke8, ke64, kcl, kin, kle, klt, keq, up_s, up_n, up_u, true_and, and_true, false_implies, true_implies, not_false_eq_true, not_true_eq_false, kzl, kl3, knl, gx, gy, eq_self, a4, a5, qw, d4, d5, qw2, qe]
        exact hQ _ _ _ f1
theorem w_paste_1_1 {B : tw → Nat × Nat × (Nat → Nat)} {e : am_V} {I : Nat → Nat → Int32} {L : Nat → Nat → Int64} {t : tw} {m : Nat} {v2 v4 v5 : Int32} {Q : Int32 → Int32 → (Nat → Nat → Int32) → (Nat → Nat → Int64) → Prop} (hR : Rel B e t I L m) (hQ : ∀ r J M, Rel B e t J M m → Q r r J M) : C_X10_paste_0 e (nI 1) v2 (nI 1) v4 v5 I L (fun r J M => C_X11_paste_73 e (nI 1) v2 (nI 1) v4 v5 J M (fun r' K N => Q r r' K N)) := by
  have f1 : Rel B e t (va_up I 73 (va_up (I 73) 0 (nI 0))) L m := Rel_q hR (fr_73 (fr_refl _ _ _) rfl) (frL_r L) (Nat.le_refl _)
  have hS := hR.2.2.2.2.1
  have hS1 := f1.2.2.2.2.1
  have gx : (1 ≤ 3) = True := eq_true (by decide)
  have gy : (1 ≤ 3) = True := eq_true (by decide)
  have q2 : ((-1 : Int32) = (-1 : Int32)) = True := eq_true rfl
  have n00 : ((0 : Nat) = 0) = True := eq_true rfl
  rcases hS 1 (by decide) with ⟨a1, a2⟩ | ⟨w, c, hw, hc, a1, a2, a3, a4, a5, a6⟩
  · have b1 : I 31 1 = nI 0 := a1
    refine b_X10_paste_0_c1_c1 ?_
    simp (disch := omega) only [pk_mul, nI_add, ksub, kdv, kd8, kd64, kd2, kd3, km8, km64, kt8, ke8, ke64, kcl, kin, kle, klt, keq, up_s, up_n, up_u, true_and, and_true, false_implies, true_implies, not_false_eq_true, not_true_eq_false, b1, n00]
    refine b_X11_paste_73 ?_
    simp (disch := omega) only [pk_mul, nI_add, ksub, kdv, kd8, kd64, kd2, kd3, km8, km64, kt8, ke8, ke64, kcl, kin, kle, klt, keq, up_s, up_n, up_u, true_and, and_true, false_implies, true_implies, not_false_eq_true, not_true_eq_false, kzl, kl3, knl, gx, gy, eq_self, a2, q2]
    exact hQ _ _ _ f1
  · have b1 : I 31 1 = nI 1 := a1
    have b2 : I 31 2 = nI w := a2
    have b3 : I 31 3 = nI c := a3
    have qw := km1 (n := w) (by omega)
    by_cases z2 : v2 < nI 0
    · skip
      refine b_X10_paste_0_c1_c1 ?_
      simp (disch := omega) only [pk_mul, nI_add, ksub, kdv, kd8, kd64, kd2, kd3, km8, km64, kt8, ke8, ke64, kcl, kin, kle, klt, keq, up_s, up_n, up_u, true_and, and_true, false_implies, true_implies, not_false_eq_true, not_true_eq_false, b1, b2, b3, n10, eq_self, z2]
      repeat' (first | refine And.intro (fun _ => ?_) (fun _ => ?_) | (refine b_X11_paste_73 ?_; simp (disch := omega) only [pk_mul, nI_add, ksub, kdv, kd8, kd64, kd2, kd3, km8, km64, kt8, ke8, ke64, kcl, kin, kle, klt, keq, up_s, up_n, up_u, true_and, and_true, false_implies, true_implies, not_false_eq_true, not_true_eq_false, kzl, kl3, knl, gx, gy, eq_self, a4, a5, qw, z2]; repeat' (first | exact hQ _ _ _ f1 | refine And.intro (fun _ => ?_) (fun _ => ?_))))
    by_cases z4 : v4 < nI 0
    · skip
      refine b_X10_paste_0_c1_c1 ?_
      simp (disch := omega) only [pk_mul, nI_add, ksub, kdv, kd8, kd64, kd2, kd3, km8, km64, kt8, ke8, ke64, kcl, kin, kle, klt, keq, up_s, up_n, up_u, true_and, and_true, false_implies, true_implies, not_false_eq_true, not_true_eq_false, b1, b2, b3, n10, eq_self, z2, z4]
      repeat' (first | refine And.intro (fun _ => ?_) (fun _ => ?_) | (refine b_X11_paste_73 ?_; simp (disch := omega) only [pk_mul, nI_add, ksub, kdv, kd8, kd64, kd2, kd3, km8, km64, kt8, ke8, ke64, kcl, kin, kle, klt, keq, up_s, up_n, up_u, true_and, and_true, false_implies, true_implies, not_false_eq_true, not_true_eq_false, kzl, kl3, knl, gx, gy, eq_self, a4, a5, qw, z2, z4]; repeat' (first | exact hQ _ _ _ f1 | refine And.intro (fun _ => ?_) (fun _ => ?_))))
    by_cases z5 : v5 < nI 0
    · skip
      refine b_X10_paste_0_c1_c1 ?_
      simp (disch := omega) only [pk_mul, nI_add, ksub, kdv, kd8, kd64, kd2, kd3, km8, km64, kt8, ke8, ke64, kcl, kin, kle, klt, keq, up_s, up_n, up_u, true_and, and_true, false_implies, true_implies, not_false_eq_true, not_true_eq_false, b1, b2, b3, n10, eq_self, z2, z4, z5]
      repeat' (first | refine And.intro (fun _ => ?_) (fun _ => ?_) | (refine b_X11_paste_73 ?_; simp (disch := omega) only [pk_mul, nI_add, ksub, kdv, kd8, kd64, kd2, kd3, km8, km64, kt8, ke8, ke64, kcl, kin, kle, klt, keq, up_s, up_n, up_u, true_and, and_true, false_implies, true_implies, not_false_eq_true, not_true_eq_false, kzl, kl3, knl, gx, gy, eq_self, a4, a5, qw, z2, z4, z5]; repeat' (first | exact hQ _ _ _ f1 | refine And.intro (fun _ => ?_) (fun _ => ?_))))
    obtain ⟨a, ha, rfl⟩ := nI_of z2
    obtain ⟨b, hb, rfl⟩ := nI_of z4
    obtain ⟨n, hn, rfl⟩ := nI_of z5
    by_cases h1 : c < n
    · have k1 := eq_true h1
      have k2 : (c < a + n) = True := eq_true (by omega)
      refine b_X10_paste_0_c1_c1 ?_
      simp (disch := omega) only [pk_mul, nI_add, ksub, kdv, kd8, kd64, kd2, kd3, km8, km64, kt8, ke8, ke64, kcl, kin, kle, klt, keq, up_s, up_n, up_u, true_and, and_true, false_implies, true_implies, not_false_eq_true, not_true_eq_false, b1, b2, b3, n10, eq_self, knl, k1]
      repeat' (first | refine And.intro (fun _ => ?_) (fun _ => ?_) | (refine b_X11_paste_73 ?_; simp (disch := omega) only [pk_mul, nI_add, ksub, kdv, kd8, kd64, kd2, kd3, km8, km64, kt8, ke8, ke64, kcl, kin, kle, klt, keq, up_s, up_n, up_u, true_and, and_true, false_implies, true_implies, not_false_eq_true, not_true_eq_false, kzl, kl3, knl, gx, gy, eq_self, a4, a5, qw, kadd, k2]; repeat' (first | exact hQ _ _ _ f1 | refine And.intro (fun _ => ?_) (fun _ => ?_))))
    have k1 := eq_false h1
    by_cases h2 : c - n < a
    · have k3 := eq_true h2
      have k2 : (c < a + n) = True := eq_true (by omega)
      refine b_X10_paste_0_c1_c1 ?_
      simp (disch := omega) only [pk_mul, nI_add, ksub, kdv, kd8, kd64, kd2, kd3, km8, km64, kt8, ke8, ke64, kcl, kin, kle, klt, keq, up_s, up_n, up_u, true_and, and_true, false_implies, true_implies, not_false_eq_true, not_true_eq_false, b1, b2, b3, n10, eq_self, knl, k1, k3]
      repeat' (first | refine And.intro (fun _ => ?_) (fun _ => ?_) | (refine b_X11_paste_73 ?_; simp (disch := omega) only [pk_mul, nI_add, ksub, kdv, kd8, kd64, kd2, kd3, km8, km64, kt8, ke8, ke64, kcl, kin, kle, klt, keq, up_s, up_n, up_u, true_and, and_true, false_implies, true_implies, not_false_eq_true, not_true_eq_false, kzl, kl3, knl, gx, gy, eq_self, a4, a5, qw, kadd, k2]; repeat' (first | exact hQ _ _ _ f1 | refine And.intro (fun _ => ?_) (fun _ => ?_))))
    have k3 := eq_false h2
    have k2 : (c < a + n) = False := eq_false (by omega)
    have k4 := k1
    by_cases h4 : c - n < b
    · have k6 := eq_true h4
      have k5 : (c < b + n) = True := eq_true (by omega)
      refine b_X10_paste_0_c1_c1 ?_
      simp (disch := omega) only [pk_mul, nI_add, ksub, kdv, kd8, kd64, kd2, kd3, km8, km64, kt8, ke8, ke64, kcl, kin, kle, klt, keq, up_s, up_n, up_u, true_and, and_true, false_implies, true_implies, not_false_eq_true, not_true_eq_false, b1, b2, b3, n10, eq_self, knl, k1, k3, k4, k6]
      repeat' (first | refine And.intro (fun _ => ?_) (fun _ => ?_) | (refine b_X11_paste_73 ?_; simp (disch := omega) only [pk_mul, nI_add, ksub, kdv, kd8, kd64, kd2, kd3, km8, km64, kt8, ke8, ke64, kcl, kin, kle, klt, keq, up_s, up_n, up_u, true_and, and_true, false_implies, true_implies, not_false_eq_true, not_true_eq_false, kzl, kl3, knl, gx, gy, eq_self, a4, a5, qw, kadd, k2, k5]; repeat' (first | exact hQ _ _ _ f1 | refine And.intro (fun _ => ?_) (fun _ => ?_))))
    have k6 := eq_false h4
    have k5 : (c < b + n) = False := eq_false (by omega)
    have z1 : (a + n ≤ 60) = True := eq_true (by omega)
    have z3 : (b + n ≤ 60) = True := eq_true (by omega)
    have nz : ∀ k : Nat, k < 2147483648 → (nI k < 0) = False := fun k hk => by
      have h9 : (nI k < nI 0) = (k < 0) := klt (by omega) (by omega)
      rw [knl] at h9
      exact h9
    refine b_X10_paste_0_c1_c1 ?_
    simp (disch := omega) only [pk_mul, nI_add, ksub, kdv, kd8, kd64, kd2, kd3, km8, km64, kt8, ke8, ke64, kcl, kin, kle, klt, keq, up_s, up_n, up_u, true_and, and_true, false_implies, true_implies, not_false_eq_true, not_true_eq_false, b1, b2, b3, n10, eq_self, knl, k1, k3, k4, k6, z1, z3, nz]
    refine b_X11_paste_73 ?_
    simp (disch := omega) only [pk_mul, nI_add, ksub, kdv, kd8, kd64, kd2, kd3, km8, km64, kt8, ke8, ke64, kcl, kin, kle, klt, keq, up_s, up_n, up_u, true_and, and_true, false_implies, true_implies, not_false_eq_true, not_true_eq_false, kzl, kl3, knl, gx, gy, eq_self, a4, a5, qw, kadd, k2, k5]
    refine m_paste (by decide) (by decide) (by omega) (by omega) (fun M m1 m2 m3 => hQ _ _ _ (Rel_L f1 (SL_p (x := 1) (y := 1) (a := a) (b := b) (n := n) (c := c) hS1 (by decide) a6 (by omega) (by omega) ?_ (fun s hs hne => ?_) (fun k hk => ?_) (fun k hk => ?_))))
    · rw [m1 _ (by decide) (by decide)]
      rfl
    · rw [m1 _ (by omega) (by omega), up_n (by omega)]
    · rw [m2 k hk]
      rfl
    · rw [m3 k hk]
      rfl
theorem w_paste_1_2 {B : tw → Nat × Nat × (Nat → Nat)} {e : am_V} {I : Nat → Nat → Int32} {L : Nat → Nat → Int64} {t : tw} {m : Nat} {v2 v4 v5 : Int32} {Q : Int32 → Int32 → (Nat → Nat → Int32) → (Nat → Nat → Int64) → Prop} (hR : Rel B e t I L m) (hQ : ∀ r J M, Rel B e t J M m → Q r r J M) : C_X10_paste_0 e (nI 1) v2 (nI 2) v4 v5 I L (fun r J M => C_X11_paste_73 e (nI 1) v2 (nI 2) v4 v5 J M (fun r' K N => Q r r' K N)) := by
  have f1 : Rel B e t (va_up I 73 (va_up (I 73) 0 (nI 0))) L m := Rel_q hR (fr_73 (fr_refl _ _ _) rfl) (frL_r L) (Nat.le_refl _)
  have hS := hR.2.2.2.2.1
  have hS1 := f1.2.2.2.2.1
  have gx : (1 ≤ 3) = True := eq_true (by decide)
  have gy : (2 ≤ 3) = True := eq_true (by decide)
  have q2 : ((-1 : Int32) = (-1 : Int32)) = True := eq_true rfl
  have n00 : ((0 : Nat) = 0) = True := eq_true rfl
  rcases hS 1 (by decide) with ⟨a1, a2⟩ | ⟨w, c, hw, hc, a1, a2, a3, a4, a5, a6⟩
  · have b1 : I 31 1 = nI 0 := a1
    refine b_X10_paste_0_c1_c2 ?_
    simp (disch := omega) only [pk_mul, nI_add, ksub, kdv, kd8, kd64, kd2, kd3, km8, km64, kt8, ke8, ke64, kcl, kin, kle, klt, keq, up_s, up_n, up_u, true_and, and_true, false_implies, true_implies, not_false_eq_true, not_true_eq_false, b1, n00]
    refine b_X11_paste_73 ?_
    simp (disch := omega) only [pk_mul, nI_add, ksub, kdv, kd8, kd64, kd2, kd3, km8, km64, kt8, ke8, ke64, kcl, kin, kle, klt, keq, up_s, up_n, up_u, true_and, and_true, false_implies, true_implies, not_false_eq_true, not_true_eq_false, kzl, kl3, knl, gx, gy, eq_self, a2, q2]
    exact hQ _ _ _ f1
  · have b1 : I 31 1 = nI 1 := a1
    have b2 : I 31 2 = nI w := a2
    have b3 : I 31 3 = nI c := a3
    have qw := km1 (n := w) (by omega)
    rcases hS 2 (by decide) with ⟨d1, d2⟩ | ⟨w2, c2, hw2, hc2, d1, d2, d3, d4, d5, d6⟩
    · have g1 : I 33 1 = nI 0 := d1
      refine b_X10_paste_0_c1_c2 ?_
      simp (disch := omega) only [pk_mul, nI_add, ksub, kdv, kd8, kd64, kd2, kd3, km8, km64, kt8, ke8, ke64, kcl, kin, kle, klt, keq, up_s, up_n, up_u, true_and, and_true, false_implies, true_implies, not_false_eq_true, not_true_eq_false, b1, g1, n10, n00]
      refine b_X11_paste_73 ?_
      simp (disch := omega) only [pk_mul, nI_add, ksub, kdv, kd8, kd64, kd2, kd3, km8, km64, kt8, ke8, ke64, kcl, kin, kle, klt, keq, up_s, up_n, up_u, true_and, and_true, false_implies, true_implies, not_false_eq_true, not_true_eq_false, kzl, kl3, knl, gx, gy, eq_self, a4, qw, d2, q2]
      exact hQ _ _ _ f1
    · have g1 : I 33 1 = nI 1 := d1
      have g2 : I 33 2 = nI w2 := d2
      have g3 : I 33 3 = nI c2 := d3
      have qw2 := km1 (n := w2) (by omega)
      by_cases hww : w = w2
      · have qe := eq_true hww
        by_cases z2 : v2 < nI 0
        · skip
          refine b_X10_paste_0_c1_c2 ?_
          simp (disch := omega) only [pk_mul, nI_add, ksub, kdv, kd8, kd64, kd2, kd3, km8, km64, kt8, ke8, ke64, kcl, kin, kle, klt, keq, up_s, up_n, up_u, true_and, and_true, false_implies, true_implies, not_false_eq_true, not_true_eq_false, b1, b2, b3, n10, g1, g2, g3, qe, z2]
          repeat' (first | refine And.intro (fun _ => ?_) (fun _ => ?_) | (refine b_X11_paste_73 ?_; simp (disch := omega) only [pk_mul, nI_add, ksub, kdv, kd8, kd64, kd2, kd3, km8, km64, kt8, ke8, ke64, kcl, kin, kle, klt, keq, up_s, up_n, up_u, true_and, and_true, false_implies, true_implies, not_false_eq_true, not_true_eq_false, kzl, kl3, knl, gx, gy, eq_self, a4, a5, qw, d4, d5, qw2, qe, z2]; repeat' (first | exact hQ _ _ _ f1 | refine And.intro (fun _ => ?_) (fun _ => ?_))))
        by_cases z4 : v4 < nI 0
        · skip
          refine b_X10_paste_0_c1_c2 ?_
          simp (disch := omega) only [pk_mul, nI_add, ksub, kdv, kd8, kd64, kd2, kd3, km8, km64, kt8, ke8, ke64, kcl, kin, kle, klt, keq, up_s, up_n, up_u, true_and, and_true, false_implies, true_implies, not_false_eq_true, not_true_eq_false, b1, b2, b3, n10, g1, g2, g3, qe, z2, z4]
          repeat' (first | refine And.intro (fun _ => ?_) (fun _ => ?_) | (refine b_X11_paste_73 ?_; simp (disch := omega) only [pk_mul, nI_add, ksub, kdv, kd8, kd64, kd2, kd3, km8, km64, kt8, ke8, ke64, kcl, kin, kle, klt, keq, up_s, up_n, up_u, true_and, and_true, false_implies, true_implies, not_false_eq_true, not_true_eq_false, kzl, kl3, knl, gx, gy, eq_self, a4, a5, qw, d4, d5, qw2, qe, z2, z4]; repeat' (first | exact hQ _ _ _ f1 | refine And.intro (fun _ => ?_) (fun _ => ?_))))
        by_cases z5 : v5 < nI 0
        · skip
          refine b_X10_paste_0_c1_c2 ?_
          simp (disch := omega) only [pk_mul, nI_add, ksub, kdv, kd8, kd64, kd2, kd3, km8, km64, kt8, ke8, ke64, kcl, kin, kle, klt, keq, up_s, up_n, up_u, true_and, and_true, false_implies, true_implies, not_false_eq_true, not_true_eq_false, b1, b2, b3, n10, g1, g2, g3, qe, z2, z4, z5]
          repeat' (first | refine And.intro (fun _ => ?_) (fun _ => ?_) | (refine b_X11_paste_73 ?_; simp (disch := omega) only [pk_mul, nI_add, ksub, kdv, kd8, kd64, kd2, kd3, km8, km64, kt8, ke8, ke64, kcl, kin, kle, klt, keq, up_s, up_n, up_u, true_and, and_true, false_implies, true_implies, not_false_eq_true, not_true_eq_false, kzl, kl3, knl, gx, gy, eq_self, a4, a5, qw, d4, d5, qw2, qe, z2, z4, z5]; repeat' (first | exact hQ _ _ _ f1 | refine And.intro (fun _ => ?_) (fun _ => ?_))))
        obtain ⟨a, ha, rfl⟩ := nI_of z2
        obtain ⟨b, hb, rfl⟩ := nI_of z4
        obtain ⟨n, hn, rfl⟩ := nI_of z5
        by_cases h1 : c < n
        · have k1 := eq_true h1
          have k2 : (c < a + n) = True := eq_true (by omega)
          refine b_X10_paste_0_c1_c2 ?_
          simp (disch := omega) only [pk_mul, nI_add, ksub, kdv, kd8, kd64, kd2, kd3, km8, km64, kt8, ke8, ke64, kcl, kin, kle, klt, keq, up_s, up_n, up_u, true_and, and_true, false_implies, true_implies, not_false_eq_true, not_true_eq_false, b1, b2, b3, n10, g1, g2, g3, qe, knl, k1]
          repeat' (first | refine And.intro (fun _ => ?_) (fun _ => ?_) | (refine b_X11_paste_73 ?_; simp (disch := omega) only [pk_mul, nI_add, ksub, kdv, kd8, kd64, kd2, kd3, km8, km64, kt8, ke8, ke64, kcl, kin, kle, klt, keq, up_s, up_n, up_u, true_and, and_true, false_implies, true_implies, not_false_eq_true, not_true_eq_false, kzl, kl3, knl, gx, gy, eq_self, a4, a5, qw, d4, d5, qw2, qe, kadd, k2]; repeat' (first | exact hQ _ _ _ f1 | refine And.intro (fun _ => ?_) (fun _ => ?_))))
        have k1 := eq_false h1
        by_cases h2 : c - n < a
        · have k3 := eq_true h2
          have k2 : (c < a + n) = True := eq_true (by omega)
          refine b_X10_paste_0_c1_c2 ?_
          simp (disch := omega) only [pk_mul, nI_add, ksub, kdv, kd8, kd64, kd2, kd3, km8, km64, kt8, ke8, ke64, kcl, kin, kle, klt, keq, up_s, up_n, up_u, true_and, and_true, false_implies, true_implies, not_false_eq_true, not_true_eq_false, b1, b2, b3, n10, g1, g2, g3, qe, knl, k1, k3]
          repeat' (first | refine And.intro (fun _ => ?_) (fun _ => ?_) | (refine b_X11_paste_73 ?_; simp (disch := omega) only [pk_mul, nI_add, ksub, kdv, kd8, kd64, kd2, kd3, km8, km64, kt8, ke8, ke64, kcl, kin, kle, klt, keq, up_s, up_n, up_u, true_and, and_true, false_implies, true_implies, not_false_eq_true, not_true_eq_false, kzl, kl3, knl, gx, gy, eq_self, a4, a5, qw, d4, d5, qw2, qe, kadd, k2]; repeat' (first | exact hQ _ _ _ f1 | refine And.intro (fun _ => ?_) (fun _ => ?_))))
        have k3 := eq_false h2
        have k2 : (c < a + n) = False := eq_false (by omega)
        by_cases h3 : c2 < n
        · have k4 := eq_true h3
          have k5 : (c2 < b + n) = True := eq_true (by omega)
          refine b_X10_paste_0_c1_c2 ?_
          simp (disch := omega) only [pk_mul, nI_add, ksub, kdv, kd8, kd64, kd2, kd3, km8, km64, kt8, ke8, ke64, kcl, kin, kle, klt, keq, up_s, up_n, up_u, true_and, and_true, false_implies, true_implies, not_false_eq_true, not_true_eq_false, b1, b2, b3, n10, g1, g2, g3, qe, knl, k1, k3, k4]
          repeat' (first | refine And.intro (fun _ => ?_) (fun _ => ?_) | (refine b_X11_paste_73 ?_; simp (disch := omega) only [pk_mul, nI_add, ksub, kdv, kd8, kd64, kd2, kd3, km8, km64, kt8, ke8, ke64, kcl, kin, kle, klt, keq, up_s, up_n, up_u, true_and, and_true, false_implies, true_implies, not_false_eq_true, not_true_eq_false, kzl, kl3, knl, gx, gy, eq_self, a4, a5, qw, d4, d5, qw2, qe, kadd, k2, k5]; repeat' (first | exact hQ _ _ _ f1 | refine And.intro (fun _ => ?_) (fun _ => ?_))))
        have k4 := eq_false h3
        by_cases h4 : c2 - n < b
        · have k6 := eq_true h4
          have k5 : (c2 < b + n) = True := eq_true (by omega)
          refine b_X10_paste_0_c1_c2 ?_
          simp (disch := omega) only [pk_mul, nI_add, ksub, kdv, kd8, kd64, kd2, kd3, km8, km64, kt8, ke8, ke64, kcl, kin, kle, klt, keq, up_s, up_n, up_u, true_and, and_true, false_implies, true_implies, not_false_eq_true, not_true_eq_false, b1, b2, b3, n10, g1, g2, g3, qe, knl, k1, k3, k4, k6]
          repeat' (first | refine And.intro (fun _ => ?_) (fun _ => ?_) | (refine b_X11_paste_73 ?_; simp (disch := omega) only [pk_mul, nI_add, ksub, kdv, kd8, kd64, kd2, kd3, km8, km64, kt8, ke8, ke64, kcl, kin, kle, klt, keq, up_s, up_n, up_u, true_and, and_true, false_implies, true_implies, not_false_eq_true, not_true_eq_false, kzl, kl3, knl, gx, gy, eq_self, a4, a5, qw, d4, d5, qw2, qe, kadd, k2, k5]; repeat' (first | exact hQ _ _ _ f1 | refine And.intro (fun _ => ?_) (fun _ => ?_))))
        have k6 := eq_false h4
        have k5 : (c2 < b + n) = False := eq_false (by omega)
        have z1 : (a + n ≤ 60) = True := eq_true (by omega)
        have z3 : (b + n ≤ 60) = True := eq_true (by omega)
        have nz : ∀ k : Nat, k < 2147483648 → (nI k < 0) = False := fun k hk => by
          have h9 : (nI k < nI 0) = (k < 0) := klt (by omega) (by omega)
          rw [knl] at h9
          exact h9
        refine b_X10_paste_0_c1_c2 ?_
        simp (disch := omega) only [pk_mul, nI_add, ksub, kdv, kd8, kd64, kd2, kd3, km8, km64, kt8, ke8, ke64, kcl, kin, kle, klt, keq, up_s, up_n, up_u, true_and, and_true, false_implies, true_implies, not_false_eq_true, not_true_eq_false, b1, b2, b3, n10, g1, g2, g3, qe, knl, k1, k3, k4, k6, z1, z3, nz]
        refine b_X11_paste_73 ?_
        simp (disch := omega) only [pk_mul, nI_add, ksub, kdv, kd8, kd64, kd2, kd3, km8, km64, kt8, ke8, ke64, kcl, kin, kle, klt, keq, up_s, up_n, up_u, true_and, and_true, false_implies, true_implies, not_false_eq_true, not_true_eq_false, kzl, kl3, knl, gx, gy, eq_self, a4, a5, qw, d4, d5, qw2, qe, kadd, k2, k5]
        refine m_paste (by decide) (by decide) (by omega) (by omega) (fun M m1 m2 m3 => hQ _ _ _ (Rel_L f1 (SL_p (x := 1) (y := 2) (a := a) (b := b) (n := n) (c := c) hS1 (by decide) a6 (by omega) (by omega) ?_ (fun s hs hne => ?_) (fun k hk => ?_) (fun k hk => ?_))))
        · rw [m1 _ (by decide) (by decide)]
          rfl
        · rw [m1 _ (by omega) (by omega), up_n (by omega)]
        · rw [m2 k hk]
          rfl
        · rw [m3 k hk]
          rfl
      · have qe := eq_false hww
        refine b_X10_paste_0_c1_c2 ?_
        simp (disch := omega) only [pk_mul, nI_add, ksub, kdv, kd8, kd64, kd2, kd3, km8, km64, kt8, ke8, ke64, kcl, kin, kle, klt, keq, up_s, up_n, up_u, true_and, and_true, false_implies, true_implies, not_false_eq_true, not_true_eq_false, b1, b2, b3, n10, g1, g2, g3, qe]
        refine b_X11_paste_73 ?_
        simp (disch := omega) only [pk_mul, nI_add, ksub, kdv, kd8, kd64, kd2, kd3, km8, km64, kt8, ke8, ke64, kcl, kin, kle, klt, keq, up_s, up_n, up_u, true_and, and_true, false_implies, true_implies, not_false_eq_true, not_true_eq_false, kzl, kl3, knl, gx, gy, eq_self, a4, a5, qw, d4, d5, qw2, qe]
        exact hQ _ _ _ f1
theorem w_paste_1_3 {B : tw → Nat × Nat × (Nat → Nat)} {e : am_V} {I : Nat → Nat → Int32} {L : Nat → Nat → Int64} {t : tw} {m : Nat} {v2 v4 v5 : Int32} {Q : Int32 → Int32 → (Nat → Nat → Int32) → (Nat → Nat → Int64) → Prop} (hR : Rel B e t I L m) (hQ : ∀ r J M, Rel B e t J M m → Q r r J M) : C_X10_paste_0 e (nI 1) v2 (nI 3) v4 v5 I L (fun r J M => C_X11_paste_73 e (nI 1) v2 (nI 3) v4 v5 J M (fun r' K N => Q r r' K N)) := by
  have f1 : Rel B e t (va_up I 73 (va_up (I 73) 0 (nI 0))) L m := Rel_q hR (fr_73 (fr_refl _ _ _) rfl) (frL_r L) (Nat.le_refl _)
  have hS := hR.2.2.2.2.1
  have hS1 := f1.2.2.2.2.1
  have gx : (1 ≤ 3) = True := eq_true (by decide)
  have gy : (3 ≤ 3) = True := eq_true (by decide)
  have q2 : ((-1 : Int32) = (-1 : Int32)) = True := eq_true rfl
  have n00 : ((0 : Nat) = 0) = True := eq_true rfl
  rcases hS 1 (by decide) with ⟨a1, a2⟩ | ⟨w, c, hw, hc, a1, a2, a3, a4, a5, a6⟩
  · have b1 : I 31 1 = nI 0 := a1
    refine b_X10_paste_0_c1_c3 ?_
    simp (disch := omega) only [pk_mul, nI_add, ksub, kdv, kd8, kd64, kd2, kd3, km8, km64, kt8, ke8, ke64, kcl, kin, kle, klt, keq, up_s, up_n, up_u, true_and, and_true, false_implies, true_implies, not_false_eq_true, not_true_eq_false, b1, n00]
    refine b_X11_paste_73 ?_
    simp (disch := omega) only [pk_mul, nI_add, ksub, kdv, kd8, kd64, kd2, kd3, km8, km64, kt8, ke8, ke64, kcl, kin, kle, klt, keq, up_s, up_n, up_u, true_and, and_true, false_implies, true_implies, not_false_eq_true, not_true_eq_false, kzl, kl3, knl, gx, gy, eq_self, a2, q2]
    exact hQ _ _ _ f1
  · have b1 : I 31 1 = nI 1 := a1
    have b2 : I 31 2 = nI w := a2
    have b3 : I 31 3 = nI c := a3
    have qw := km1 (n := w) (by omega)
    rcases hS 3 (by decide) with ⟨d1, d2⟩ | ⟨w2, c2, hw2, hc2, d1, d2, d3, d4, d5, d6⟩
    · have g1 : I 35 1 = nI 0 := d1
      refine b_X10_paste_0_c1_c3 ?_
      simp (disch := omega) only [pk_mul, nI_add, ksub, kdv, kd8, kd64, kd2, kd3, km8, km64, kt8, ke8, ke64, kcl, kin, kle, klt, keq, up_s, up_n, up_u, true_and, and_true, false_implies, true_implies, not_false_eq_true, not_true_eq_false, b1, g1, n10, n00]
      refine b_X11_paste_73 ?_
      simp (disch := omega) only [pk_mul, nI_add, ksub, kdv, kd8, kd64, kd2, kd3, km8, km64, kt8, ke8, ke64, kcl, kin, kle, klt, keq, up_s, up_n, up_u, true_and, and_true, false_implies, true_implies, not_false_eq_true, not_true_eq_false, kzl, kl3, knl, gx, gy, eq_self, a4, qw, d2, q2]
      exact hQ _ _ _ f1
    · have g1 : I 35 1 = nI 1 := d1
      have g2 : I 35 2 = nI w2 := d2
      have g3 : I 35 3 = nI c2 := d3
      have qw2 := km1 (n := w2) (by omega)
      by_cases hww : w = w2
      · have qe := eq_true hww
        by_cases z2 : v2 < nI 0
        · skip
          refine b_X10_paste_0_c1_c3 ?_
          simp (disch := omega) only [pk_mul, nI_add, ksub, kdv, kd8, kd64, kd2, kd3, km8, km64, kt8, ke8, ke64, kcl, kin, kle, klt, keq, up_s, up_n, up_u, true_and, and_true, false_implies, true_implies, not_false_eq_true, not_true_eq_false, b1, b2, b3, n10, g1, g2, g3, qe, z2]
          repeat' (first | refine And.intro (fun _ => ?_) (fun _ => ?_) | (refine b_X11_paste_73 ?_; simp (disch := omega) only [pk_mul, nI_add, ksub, kdv, kd8, kd64, kd2, kd3, km8, km64, kt8, ke8, ke64, kcl, kin, kle, klt, keq, up_s, up_n, up_u, true_and, and_true, false_implies, true_implies, not_false_eq_true, not_true_eq_false, kzl, kl3, knl, gx, gy, eq_self, a4, a5, qw, d4, d5, qw2, qe, z2]; repeat' (first | exact hQ _ _ _ f1 | refine And.intro (fun _ => ?_) (fun _ => ?_))))
        by_cases z4 : v4 < nI 0
        · skip
          refine b_X10_paste_0_c1_c3 ?_
          simp (disch := omega) only [pk_mul, nI_add, ksub, kdv, kd8, kd64, kd2, kd3, km8, km64, kt8, ke8, ke64, kcl, kin, kle, klt, keq, up_s, up_n, up_u, true_and, and_true, false_implies, true_implies, not_false_eq_true, not_true_eq_false, b1, b2, b3, n10, g1, g2, g3, qe, z2, z4]
          repeat' (first | refine And.intro (fun _ => ?_) (fun _ => ?_) | (refine b_X11_paste_73 ?_; simp (disch := omega) only [pk_mul, nI_add, ksub, kdv, kd8, kd64, kd2, kd3, km8, km64, kt8, ke8, ke64, kcl, kin, kle, klt, keq, up_s, up_n, up_u, true_and, and_true, false_implies, true_implies, not_false_eq_true, not_true_eq_false, kzl, kl3, knl, gx, gy, eq_self, a4, a5, qw, d4, d5, qw2, qe, z2, z4]; repeat' (first | exact hQ _ _ _ f1 | refine And.intro (fun _ => ?_) (fun _ => ?_))))
        by_cases z5 : v5 < nI 0
        · skip
          refine b_X10_paste_0_c1_c3 ?_
          simp (disch := omega) only [pk_mul, nI_add, ksub, kdv, kd8, kd64, kd2, kd3, km8, km64, kt8, ke8, ke64, kcl, kin, kle, klt, keq, up_s, up_n, up_u, true_and, and_true, false_implies, true_implies, not_false_eq_true, not_true_eq_false, b1, b2, b3, n10, g1, g2, g3, qe, z2, z4, z5]
          repeat' (first | refine And.intro (fun _ => ?_) (fun _ => ?_) | (refine b_X11_paste_73 ?_; simp (disch := omega) only [pk_mul, nI_add, ksub, kdv, kd8, kd64, kd2, kd3, km8, km64, kt8, ke8, ke64, kcl, kin, kle, klt, keq, up_s, up_n, up_u, true_and, and_true, false_implies, true_implies, not_false_eq_true, not_true_eq_false, kzl, kl3, knl, gx, gy, eq_self, a4, a5, qw, d4, d5, qw2, qe, z2, z4, z5]; repeat' (first | exact hQ _ _ _ f1 | refine And.intro (fun _ => ?_) (fun _ => ?_))))
        obtain ⟨a, ha, rfl⟩ := nI_of z2
        obtain ⟨b, hb, rfl⟩ := nI_of z4
        obtain ⟨n, hn, rfl⟩ := nI_of z5
        by_cases h1 : c < n
        · have k1 := eq_true h1
          have k2 : (c < a + n) = True := eq_true (by omega)
          refine b_X10_paste_0_c1_c3 ?_
          simp (disch := omega) only [pk_mul, nI_add, ksub, kdv, kd8, kd64, kd2, kd3, km8, km64, kt8, ke8, ke64, kcl, kin, kle, klt, keq, up_s, up_n, up_u, true_and, and_true, false_implies, true_implies, not_false_eq_true, not_true_eq_false, b1, b2, b3, n10, g1, g2, g3, qe, knl, k1]
          repeat' (first | refine And.intro (fun _ => ?_) (fun _ => ?_) | (refine b_X11_paste_73 ?_; simp (disch := omega) only [pk_mul, nI_add, ksub, kdv, kd8, kd64, kd2, kd3, km8, km64, kt8, ke8, ke64, kcl, kin, kle, klt, keq, up_s, up_n, up_u, true_and, and_true, false_implies, true_implies, not_false_eq_true, not_true_eq_false, kzl, kl3, knl, gx, gy, eq_self, a4, a5, qw, d4, d5, qw2, qe, kadd, k2]; repeat' (first | exact hQ _ _ _ f1 | refine And.intro (fun _ => ?_) (fun _ => ?_))))
        have k1 := eq_false h1
        by_cases h2 : c - n < a
        · have k3 := eq_true h2
          have k2 : (c < a + n) = True := eq_true (by omega)
          refine b_X10_paste_0_c1_c3 ?_
          simp (disch := omega) only [pk_mul, nI_add, ksub, kdv, kd8, kd64, kd2, kd3, km8, km64, kt8, ke8, ke64, kcl, kin, kle, klt, keq, up_s, up_n, up_u, true_and, and_true, false_implies, true_implies, not_false_eq_true, not_true_eq_false, b1, b2, b3, n10, g1, g2, g3, qe, knl, k1, k3]
          repeat' (first | refine And.intro (fun _ => ?_) (fun _ => ?_) | (refine b_X11_paste_73 ?_; simp (disch := omega) only [pk_mul, nI_add, ksub, kdv, kd8, kd64, kd2, kd3, km8, km64, kt8, ke8, ke64, kcl, kin, kle, klt, keq, up_s, up_n, up_u, true_and, and_true, false_implies, true_implies, not_false_eq_true, not_true_eq_false, kzl, kl3, knl, gx, gy, eq_self, a4, a5, qw, d4, d5, qw2, qe, kadd, k2]; repeat' (first | exact hQ _ _ _ f1 | refine And.intro (fun _ => ?_) (fun _ => ?_))))
        have k3 := eq_false h2
        have k2 : (c < a + n) = False := eq_false (by omega)
        by_cases h3 : c2 < n
        · have k4 := eq_true h3
          have k5 : (c2 < b + n) = True := eq_true (by omega)
          refine b_X10_paste_0_c1_c3 ?_
          simp (disch := omega) only [pk_mul, nI_add, ksub, kdv, kd8, kd64, kd2, kd3, km8, km64, kt8, ke8, ke64, kcl, kin, kle, klt, keq, up_s, up_n, up_u, true_and, and_true, false_implies, true_implies, not_false_eq_true, not_true_eq_false, b1, b2, b3, n10, g1, g2, g3, qe, knl, k1, k3, k4]
          repeat' (first | refine And.intro (fun _ => ?_) (fun _ => ?_) | (refine b_X11_paste_73 ?_; simp (disch := omega) only [pk_mul, nI_add, ksub, kdv, kd8, kd64, kd2, kd3, km8, km64, kt8, ke8, ke64, kcl, kin, kle, klt, keq, up_s, up_n, up_u, true_and, and_true, false_implies, true_implies, not_false_eq_true, not_true_eq_false, kzl, kl3, knl, gx, gy, eq_self, a4, a5, qw, d4, d5, qw2, qe, kadd, k2, k5]; repeat' (first | exact hQ _ _ _ f1 | refine And.intro (fun _ => ?_) (fun _ => ?_))))
        have k4 := eq_false h3
        by_cases h4 : c2 - n < b
        · have k6 := eq_true h4
          have k5 : (c2 < b + n) = True := eq_true (by omega)
          refine b_X10_paste_0_c1_c3 ?_
          simp (disch := omega) only [pk_mul, nI_add, ksub, kdv, kd8, kd64, kd2, kd3, km8, km64, kt8, ke8, ke64, kcl, kin, kle, klt, keq, up_s, up_n, up_u, true_and, and_true, false_implies, true_implies, not_false_eq_true, not_true_eq_false, b1, b2, b3, n10, g1, g2, g3, qe, knl, k1, k3, k4, k6]
          repeat' (first | refine And.intro (fun _ => ?_) (fun _ => ?_) | (refine b_X11_paste_73 ?_; simp (disch := omega) only [pk_mul, nI_add, ksub, kdv, kd8, kd64, kd2, kd3, km8, km64, kt8, ke8, ke64, kcl, kin, kle, klt, keq, up_s, up_n, up_u, true_and, and_true, false_implies, true_implies, not_false_eq_true, not_true_eq_false, kzl, kl3, knl, gx, gy, eq_self, a4, a5, qw, d4, d5, qw2, qe, kadd, k2, k5]; repeat' (first | exact hQ _ _ _ f1 | refine And.intro (fun _ => ?_) (fun _ => ?_))))
        have k6 := eq_false h4
        have k5 : (c2 < b + n) = False := eq_false (by omega)
        have z1 : (a + n ≤ 60) = True := eq_true (by omega)
        have z3 : (b + n ≤ 60) = True := eq_true (by omega)
        have nz : ∀ k : Nat, k < 2147483648 → (nI k < 0) = False := fun k hk => by
          have h9 : (nI k < nI 0) = (k < 0) := klt (by omega) (by omega)
          rw [knl] at h9
          exact h9
        refine b_X10_paste_0_c1_c3 ?_
        simp (disch := omega) only [pk_mul, nI_add, ksub, kdv, kd8, kd64, kd2, kd3, km8, km64, kt8, ke8, ke64, kcl, kin, kle, klt, keq, up_s, up_n, up_u, true_and, and_true, false_implies, true_implies, not_false_eq_true, not_true_eq_false, b1, b2, b3, n10, g1, g2, g3, qe, knl, k1, k3, k4, k6, z1, z3, nz]
        refine b_X11_paste_73 ?_
        simp (disch := omega) only [pk_mul, nI_add, ksub, kdv, kd8, kd64, kd2, kd3, km8, km64, kt8, ke8, ke64, kcl, kin, kle, klt, keq, up_s, up_n, up_u, true_and, and_true, false_implies, true_implies, not_false_eq_true, not_true_eq_false, kzl, kl3, knl, gx, gy, eq_self, a4, a5, qw, d4, d5, qw2, qe, kadd, k2, k5]
        refine m_paste (by decide) (by decide) (by omega) (by omega) (fun M m1 m2 m3 => hQ _ _ _ (Rel_L f1 (SL_p (x := 1) (y := 3) (a := a) (b := b) (n := n) (c := c) hS1 (by decide) a6 (by omega) (by omega) ?_ (fun s hs hne => ?_) (fun k hk => ?_) (fun k hk => ?_))))
        · rw [m1 _ (by decide) (by decide)]
          rfl
        · rw [m1 _ (by omega) (by omega), up_n (by omega)]
        · rw [m2 k hk]
          rfl
        · rw [m3 k hk]
          rfl
      · have qe := eq_false hww
        refine b_X10_paste_0_c1_c3 ?_
        simp (disch := omega) only [pk_mul, nI_add, ksub, kdv, kd8, kd64, kd2, kd3, km8, km64, kt8, ke8, ke64, kcl, kin, kle, klt, keq, up_s, up_n, up_u, true_and, and_true, false_implies, true_implies, not_false_eq_true, not_true_eq_false, b1, b2, b3, n10, g1, g2, g3, qe]
        refine b_X11_paste_73 ?_
        simp (disch := omega) only [pk_mul, nI_add, ksub, kdv, kd8, kd64, kd2, kd3, km8, km64, kt8, ke8, ke64, kcl, kin, kle, klt, keq, up_s, up_n, up_u, true_and, and_true, false_implies, true_implies, not_false_eq_true, not_true_eq_false, kzl, kl3, knl, gx, gy, eq_self, a4, a5, qw, d4, d5, qw2, qe]
        exact hQ _ _ _ f1
theorem w_paste_2_0 {B : tw → Nat × Nat × (Nat → Nat)} {e : am_V} {I : Nat → Nat → Int32} {L : Nat → Nat → Int64} {t : tw} {m : Nat} {v2 v4 v5 : Int32} {Q : Int32 → Int32 → (Nat → Nat → Int32) → (Nat → Nat → Int64) → Prop} (hR : Rel B e t I L m) (hQ : ∀ r J M, Rel B e t J M m → Q r r J M) : C_X10_paste_0 e (nI 2) v2 (nI 0) v4 v5 I L (fun r J M => C_X11_paste_73 e (nI 2) v2 (nI 0) v4 v5 J M (fun r' K N => Q r r' K N)) := by
  have f1 : Rel B e t (va_up I 73 (va_up (I 73) 0 (nI 0))) L m := Rel_q hR (fr_73 (fr_refl _ _ _) rfl) (frL_r L) (Nat.le_refl _)
  have hS := hR.2.2.2.2.1
  have hS1 := f1.2.2.2.2.1
  have gx : (2 ≤ 3) = True := eq_true (by decide)
  have gy : (0 ≤ 3) = True := eq_true (by decide)
  have q2 : ((-1 : Int32) = (-1 : Int32)) = True := eq_true rfl
  have n00 : ((0 : Nat) = 0) = True := eq_true rfl
  rcases hS 2 (by decide) with ⟨a1, a2⟩ | ⟨w, c, hw, hc, a1, a2, a3, a4, a5, a6⟩
  · have b1 : I 33 1 = nI 0 := a1
    refine b_X10_paste_0_c2_c0 ?_
    simp (disch := omega) only [pk_mul, nI_add, ksub, kdv, kd8, kd64, kd2, kd3, km8, km64, kt8, ke8, ke64, kcl, kin, kle, klt, keq, up_s, up_n, up_u, true_and, and_true, false_implies, true_implies, not_false_eq_true, not_true_eq_false, b1, n00]
    refine b_X11_paste_73 ?_
    simp (disch := omega) only [pk_mul, nI_add, ksub, kdv, kd8, kd64, kd2, kd3, km8, km64, kt8, ke8, ke64, kcl, kin, kle, klt, keq, up_s, up_n, up_u, true_and, and_true, false_implies, true_implies, not_false_eq_true, not_true_eq_false, kzl, kl3, knl, gx, gy, eq_self, a2, q2]
    exact hQ _ _ _ f1
  · have b1 : I 33 1 = nI 1 := a1
    have b2 : I 33 2 = nI w := a2
    have b3 : I 33 3 = nI c := a3
    have qw := km1 (n := w) (by omega)
    rcases hS 0 (by decide) with ⟨d1, d2⟩ | ⟨w2, c2, hw2, hc2, d1, d2, d3, d4, d5, d6⟩
    · have g1 : I 29 1 = nI 0 := d1
      refine b_X10_paste_0_c2_c0 ?_
      simp (disch := omega) only [pk_mul, nI_add, ksub, kdv, kd8, kd64, kd2, kd3, km8, km64, kt8, ke8, ke64, kcl, kin, kle, klt, keq, up_s, up_n, up_u, true_and, and_true, false_implies, true_implies, not_false_eq_true, not_true_eq_false, b1, g1, n10, n00]
      refine b_X11_paste_73 ?_
      simp (disch := omega) only [pk_mul, nI_add, ksub, kdv, kd8, kd64, kd2, kd3, km8, km64, kt8, ke8, ke64, kcl, kin, kle, klt, keq, up_s, up_n, up_u, true_and, and_true, false_implies, true_implies, not_false_eq_true, not_true_eq_false, kzl, kl3, knl, gx, gy, eq_self, a4, qw, d2, q2]
      exact hQ _ _ _ f1
    · have g1 : I 29 1 = nI 1 := d1
      have g2 : I 29 2 = nI w2 := d2
      have g3 : I 29 3 = nI c2 := d3
      have qw2 := km1 (n := w2) (by omega)
      by_cases hww : w = w2
      · have qe := eq_true hww
        by_cases z2 : v2 < nI 0
        · skip
          refine b_X10_paste_0_c2_c0 ?_
          simp (disch := omega) only [pk_mul, nI_add, ksub, kdv, kd8, kd64, kd2, kd3, km8, km64, kt8, ke8, ke64, kcl, kin, kle, klt, keq, up_s, up_n, up_u, true_and, and_true, false_implies, true_implies, not_false_eq_true, not_true_eq_false, b1, b2, b3, n10, g1, g2, g3, qe, z2]
          repeat' (first | refine And.intro (fun _ => ?_) (fun _ => ?_) | (refine b_X11_paste_73 ?_; simp (disch := omega) only [pk_mul, nI_add, ksub, kdv, kd8, kd64, kd2, kd3, km8, km64, kt8, ke8, ke64, kcl, kin, kle, klt, keq, up_s, up_n, up_u, true_and, and_true, false_implies, true_implies, not_false_eq_true, not_true_eq_false, kzl, kl3, knl, gx, gy, eq_self, a4, a5, qw, d4, d5, qw2, qe, z2]; repeat' (first | exact hQ _ _ _ f1 | refine And.intro (fun _ => ?_) (fun _ => ?_))))
        by_cases z4 : v4 < nI 0
        · skip
          refine b_X10_paste_0_c2_c0 ?_
          simp (disch := omega) only [pk_mul, nI_add, ksub, kdv, kd8, kd64, kd2, kd3, km8, km64, kt8, ke8, ke64, kcl, kin, kle, klt, keq, up_s, up_n, up_u, true_and, and_true, false_implies, true_implies, not_false_eq_true, not_true_eq_false, b1, b2, b3, n10, g1, g2, g3, qe, z2, z4]
          repeat' (first | refine And.intro (fun _ => ?_) (fun _ => ?_) | (refine b_X11_paste_73 ?_; simp (disch := omega) only [pk_mul, nI_add, ksub, kdv, kd8, kd64, kd2, kd3, km8, km64, kt8, ke8, ke64, kcl, kin, kle, klt, keq, up_s, up_n, up_u, true_and, and_true, false_implies, true_implies, not_false_eq_true, not_true_eq_false, kzl, kl3, knl, gx, gy, eq_self, a4, a5, qw, d4, d5, qw2, qe, z2, z4]; repeat' (first | exact hQ _ _ _ f1 | refine And.intro (fun _ => ?_) (fun _ => ?_))))
        by_cases z5 : v5 < nI 0
        · skip
          refine b_X10_paste_0_c2_c0 ?_
          simp (disch := omega) only [pk_mul, nI_add, ksub, kdv, kd8, kd64, kd2, kd3, km8, km64, kt8, ke8, ke64, kcl, kin, kle, klt, keq, up_s, up_n, up_u, true_and, and_true, false_implies, true_implies, not_false_eq_true, not_true_eq_false, b1, b2, b3, n10, g1, g2, g3, qe, z2, z4, z5]
          repeat' (first | refine And.intro (fun _ => ?_) (fun _ => ?_) | (refine b_X11_paste_73 ?_; simp (disch := omega) only [pk_mul, nI_add, ksub, kdv, kd8, kd64, kd2, kd3, km8, km64, kt8, ke8, ke64, kcl, kin, kle, klt, keq, up_s, up_n, up_u, true_and, and_true, false_implies, true_implies, not_false_eq_true, not_true_eq_false, kzl, kl3, knl, gx, gy, eq_self, a4, a5, qw, d4, d5, qw2, qe, z2, z4, z5]; repeat' (first | exact hQ _ _ _ f1 | refine And.intro (fun _ => ?_) (fun _ => ?_))))
        obtain ⟨a, ha, rfl⟩ := nI_of z2
        obtain ⟨b, hb, rfl⟩ := nI_of z4
        obtain ⟨n, hn, rfl⟩ := nI_of z5
        by_cases h1 : c < n
        · have k1 := eq_true h1
          have k2 : (c < a + n) = True := eq_true (by omega)
          refine b_X10_paste_0_c2_c0 ?_
          simp (disch := omega) only [pk_mul, nI_add, ksub, kdv, kd8, kd64, kd2, kd3, km8, km64, kt8, ke8, ke64, kcl, kin, kle, klt, keq, up_s, up_n, up_u, true_and, and_true, false_implies, true_implies, not_false_eq_true, not_true_eq_false, b1, b2, b3, n10, g1, g2, g3, qe, knl, k1]
          repeat' (first | refine And.intro (fun _ => ?_) (fun _ => ?_) | (refine b_X11_paste_73 ?_; simp (disch := omega) only [pk_mul, nI_add, ksub, kdv, kd8, kd64, kd2, kd3, km8, km64, kt8, ke8, ke64, kcl, kin, kle, klt, keq, up_s, up_n, up_u, true_and, and_true, false_implies, true_implies, not_false_eq_true, not_true_eq_false, kzl, kl3, knl, gx, gy, eq_self, a4, a5, qw, d4, d5, qw2, qe, kadd, k2]; repeat' (first | exact hQ _ _ _ f1 | refine And.intro (fun _ => ?_) (fun _ => ?_))))
        have k1 := eq_false h1
        by_cases h2 : c - n < a
        · have k3 := eq_true h2
          have k2 : (c < a + n) = True := eq_true (by omega)
          refine b_X10_paste_0_c2_c0 ?_
          simp (disch := omega) only [pk_mul, nI_add, ksub, kdv, kd8, kd64, kd2, kd3, km8, km64, kt8, ke8, ke64, kcl, kin, kle, klt, keq, up_s, up_n, up_u, true_and, and_true, false_implies, true_implies, not_false_eq_true, not_true_eq_false, b1, b2, b3, n10, g1, g2, g3, qe, knl, k1, k3]
          repeat' (first | refine And.intro (fun _ => ?_) (fun _ => ?_) | (refine b_X11_paste_73 ?_; simp (disch := omega) only [pk_mul, nI_add, ksub, kdv, kd8, kd64, kd2, kd3, km8, km64, kt8, ke8, ke64, kcl, kin, kle, klt, keq, up_s, up_n, up_u, true_and, and_true, false_implies, true_implies, not_false_eq_true, not_true_eq_false, kzl, kl3, knl, gx, gy, eq_self, a4, a5, qw, d4, d5, qw2, qe, kadd, k2]; repeat' (first | exact hQ _ _ _ f1 | refine And.intro (fun _ => ?_) (fun _ => ?_))))
        have k3 := eq_false h2
        have k2 : (c < a + n) = False := eq_false (by omega)
        by_cases h3 : c2 < n
        · have k4 := eq_true h3
          have k5 : (c2 < b + n) = True := eq_true (by omega)
          refine b_X10_paste_0_c2_c0 ?_
          simp (disch := omega) only [pk_mul, nI_add, ksub, kdv, kd8, kd64, kd2, kd3, km8, km64, kt8, ke8, ke64, kcl, kin, kle, klt, keq, up_s, up_n, up_u, true_and, and_true, false_implies, true_implies, not_false_eq_true, not_true_eq_false, b1, b2, b3, n10, g1, g2, g3, qe, knl, k1, k3, k4]
          repeat' (first | refine And.intro (fun _ => ?_) (fun _ => ?_) | (refine b_X11_paste_73 ?_; simp (disch := omega) only [pk_mul, nI_add, ksub, kdv, kd8, kd64, kd2, kd3, km8, km64, kt8, ke8, ke64, kcl, kin, kle, klt, keq, up_s, up_n, up_u, true_and, and_true, false_implies, true_implies, not_false_eq_true, not_true_eq_false, kzl, kl3, knl, gx, gy, eq_self, a4, a5, qw, d4, d5, qw2, qe, kadd, k2, k5]; repeat' (first | exact hQ _ _ _ f1 | refine And.intro (fun _ => ?_) (fun _ => ?_))))
        have k4 := eq_false h3
        by_cases h4 : c2 - n < b
        · have k6 := eq_true h4
          have k5 : (c2 < b + n) = True := eq_true (by omega)
          refine b_X10_paste_0_c2_c0 ?_
          simp (disch := omega) only [pk_mul, nI_add, ksub, kdv, kd8, kd64, kd2, kd3, km8, km64, kt8, ke8, ke64, kcl, kin, kle, klt, keq, up_s, up_n, up_u, true_and, and_true, false_implies, true_implies, not_false_eq_true, not_true_eq_false, b1, b2, b3, n10, g1, g2, g3, qe, knl, k1, k3, k4, k6]
          repeat' (first | refine And.intro (fun _ => ?_) (fun _ => ?_) | (refine b_X11_paste_73 ?_; simp (disch := omega) only [pk_mul, nI_add, ksub, kdv, kd8, kd64, kd2, kd3, km8, km64, kt8, ke8, ke64, kcl, kin, kle, klt, keq, up_s, up_n, up_u, true_and, and_true, false_implies, true_implies, not_false_eq_true, not_true_eq_false, kzl, kl3, knl, gx, gy, eq_self, a4, a5, qw, d4, d5, qw2, qe, kadd, k2, k5]; repeat' (first | exact hQ _ _ _ f1 | refine And.intro (fun _ => ?_) (fun _ => ?_))))
        have k6 := eq_false h4
        have k5 : (c2 < b + n) = False := eq_false (by omega)
        have z1 : (a + n ≤ 60) = True := eq_true (by omega)
        have z3 : (b + n ≤ 60) = True := eq_true (by omega)
        have nz : ∀ k : Nat, k < 2147483648 → (nI k < 0) = False := fun k hk => by
          have h9 : (nI k < nI 0) = (k < 0) := klt (by omega) (by omega)
          rw [knl] at h9
          exact h9
        refine b_X10_paste_0_c2_c0 ?_
        simp (disch := omega) only [pk_mul, nI_add, ksub, kdv, kd8, kd64, kd2, kd3, km8, km64, kt8, ke8, ke64, kcl, kin, kle, klt, keq, up_s, up_n, up_u, true_and, and_true, false_implies, true_implies, not_false_eq_true, not_true_eq_false, b1, b2, b3, n10, g1, g2, g3, qe, knl, k1, k3, k4, k6, z1, z3, nz]
        refine b_X11_paste_73 ?_
        simp (disch := omega) only [pk_mul, nI_add, ksub, kdv, kd8, kd64, kd2, kd3, km8, km64, kt8, ke8, ke64, kcl, kin, kle, klt, keq, up_s, up_n, up_u, true_and, and_true, false_implies, true_implies, not_false_eq_true, not_true_eq_false, kzl, kl3, knl, gx, gy, eq_self, a4, a5, qw, d4, d5, qw2, qe, kadd, k2, k5]
        refine m_paste (by decide) (by decide) (by omega) (by omega) (fun M m1 m2 m3 => hQ _ _ _ (Rel_L f1 (SL_p (x := 2) (y := 0) (a := a) (b := b) (n := n) (c := c) hS1 (by decide) a6 (by omega) (by omega) ?_ (fun s hs hne => ?_) (fun k hk => ?_) (fun k hk => ?_))))
        · rw [m1 _ (by decide) (by decide)]
          rfl
        · rw [m1 _ (by omega) (by omega), up_n (by omega)]
        · rw [m2 k hk]
          rfl
        · rw [m3 k hk]
          rfl
      · have qe := eq_false hww
        refine b_X10_paste_0_c2_c0 ?_
        simp (disch := omega) only [pk_mul, nI_add, ksub, kdv, kd8, kd64, kd2, kd3, km8, km64, kt8, ke8, ke64, kcl, kin, kle, klt, keq, up_s, up_n, up_u, true_and, and_true, false_implies, true_implies, not_false_eq_true, not_true_eq_false, b1, b2, b3, n10, g1, g2, g3, qe]
        refine b_X11_paste_73 ?_
        simp (disch := omega) only [pk_mul, nI_add, ksub, kdv, kd8, kd64, kd2, kd3, km8, km64, kt8, ke8, ke64, kcl, kin, kle, klt, keq, up_s, up_n, up_u, true_and, and_true, false_implies, true_implies, not_false_eq_true, not_true_eq_false, kzl, kl3, knl, gx, gy, eq_self, a4, a5, qw, d4, d5, qw2, qe]
        exact hQ _ _ _ f1
theorem w_paste_2_1 {B : tw → Nat × Nat × (Nat → Nat)} {e : am_V} {I : Nat → Nat → Int32} {L : Nat → Nat → Int64} {t : tw} {m : Nat} {v2 v4 v5 : Int32} {Q : Int32 → Int32 → (Nat → Nat → Int32) → (Nat → Nat → Int64) → Prop} (hR : Rel B e t I L m) (hQ : ∀ r J M, Rel B e t J M m → Q r r J M) : C_X10_paste_0 e (nI 2) v2 (nI 1) v4 v5 I L (fun r J M => C_X11_paste_73 e (nI 2) v2 (nI 1) v4 v5 J M (fun r' K N => Q r r' K N)) := by
  have f1 : Rel B e t (va_up I 73 (va_up (I 73) 0 (nI 0))) L m := Rel_q hR (fr_73 (fr_refl _ _ _) rfl) (frL_r L) (Nat.le_refl _)
  have hS := hR.2.2.2.2.1
  have hS1 := f1.2.2.2.2.1
  have gx : (2 ≤ 3) = True := eq_true (by decide)
  have gy : (1 ≤ 3) = True := eq_true (by decide)
  have q2 : ((-1 : Int32) = (-1 : Int32)) = True := eq_true rfl
  have n00 : ((0 : Nat) = 0) = True := eq_true rfl
  rcases hS 2 (by decide) with ⟨a1, a2⟩ | ⟨w, c, hw, hc, a1, a2, a3, a4, a5, a6⟩
  · have b1 : I 33 1 = nI 0 := a1
    refine b_X10_paste_0_c2_c1 ?_
    simp (disch := omega) only [pk_mul, nI_add, ksub, kdv, kd8, kd64, kd2, kd3, km8, km64, kt8, ke8, ke64, kcl, kin, kle, klt, keq, up_s, up_n, up_u, true_and, and_true, false_implies, true_implies, not_false_eq_true, not_true_eq_false, b1, n00]
    refine b_X11_paste_73 ?_
    simp (disch := omega) only [pk_mul, nI_add, ksub, kdv, kd8, kd64, kd2, kd3, km8, km64, kt8, ke8, ke64, kcl, kin, kle, klt, keq, up_s, up_n, up_u, true_and, and_true, false_implies, true_implies, not_false_eq_true, not_true_eq_false, kzl, kl3, knl, gx, gy, eq_self, a2, q2]
    exact hQ _ _ _ f1
  · have b1 : I 33 1 = nI 1 := a1
    have b2 : I 33 2 = nI w := a2
    have b3 : I 33 3 = nI c := a3
    have qw := km1 (n := w) (by omega)
    rcases hS 1 (by decide) with ⟨d1, d2⟩ | ⟨w2, c2, hw2, hc2, d1, d2, d3, d4, d5, d6⟩
    · have g1 : I 31 1 = nI 0 := d1
      refine b_X10_paste_0_c2_c1 ?_
      simp (disch := omega) only [pk_mul, nI_add, ksub, kdv, kd8, kd64, kd2, kd3, km8, km64, kt8, ke8, ke64, kcl, kin, kle, klt, keq, up_s, up_n, up_u, true_and, and_true, false_implies, true_implies, not_false_eq_true, not_true_eq_false, b1, g1, n10, n00]
      refine b_X11_paste_73 ?_
      simp (disch := omega) only [pk_mul, nI_add, ksub, kdv, kd8, kd64, kd2, kd3, km8, km64, kt8, ke8, ke64, kcl, kin, kle, klt, keq, up_s, up_n, up_u, true_and, and_true, false_implies, true_implies, not_false_eq_true, not_true_eq_false, kzl, kl3, knl, gx, gy, eq_self, a4, qw, d2, q2]
      exact hQ _ _ _ f1
    · have g1 : I 31 1 = nI 1 := d1
      have g2 : I 31 2 = nI w2 := d2
      have g3 : I 31 3 = nI c2 := d3
      have qw2 := km1 (n := w2) (by omega)
      by_cases hww : w = w2
      · have qe := eq_true hww
        by_cases z2 : v2 < nI 0
        · skip
          refine b_X10_paste_0_c2_c1 ?_
          simp (disch := omega) only [pk_mul, nI_add, ksub, kdv, kd8, kd64, kd2, kd3, km8, km64, kt8, ke8, ke64, kcl, kin, kle, klt, keq, up_s, up_n, up_u, true_and, and_true, false_implies, true_implies, not_false_eq_true, not_true_eq_false, b1, b2, b3, n10, g1, g2, g3, qe, z2]
          repeat' (first | refine And.intro (fun _ => ?_) (fun _ => ?_) | (refine b_X11_paste_73 ?_; simp (disch := omega) only [pk_mul, nI_add, ksub, kdv, kd8, kd64, kd2, kd3, km8, km64, kt8, ke8, ke64, kcl, kin, kle, klt, keq, up_s, up_n, up_u, true_and, and_true, false_implies, true_implies, not_false_eq_true, not_true_eq_false, kzl, kl3, knl, gx, gy, eq_self, a4, a5, qw, d4, d5, qw2, qe, z2]; repeat' (first | exact hQ _ _ _ f1 | refine And.intro (fun _ => ?_) (fun _ => ?_))))
        by_cases z4 : v4 < nI 0
        · skip
          refine b_X10_paste_0_c2_c1 ?_
          simp (disch := omega) only [pk_mul, nI_add, ksub, kdv, kd8, kd64, kd2, kd3, km8, km64, kt8, ke8, ke64, kcl, kin, kle, klt, keq, up_s, up_n, up_u, true_and, and_true, false_implies, true_implies, not_false_eq_true, not_true_eq_false, b1, b2, b3, n10, g1, g2, g3, qe, z2, z4]
          repeat' (first | refine And.intro (fun _ => ?_) (fun _ => ?_) | (refine b_X11_paste_73 ?_; simp (disch := omega) only [pk_mul, nI_add, ksub, kdv, kd8, kd64, kd2, kd3, km8, km64, kt8, ke8, ke64, kcl, kin, kle, klt, keq, up_s, up_n, up_u, true_and, and_true, false_implies, true_implies, not_false_eq_true, not_true_eq_false, kzl, kl3, knl, gx, gy, eq_self, a4, a5, qw, d4, d5, qw2, qe, z2, z4]; repeat' (first | exact hQ _ _ _ f1 | refine And.intro (fun _ => ?_) (fun _ => ?_))))
        by_cases z5 : v5 < nI 0
        · skip
          refine b_X10_paste_0_c2_c1 ?_
          simp (disch := omega) only [pk_mul, nI_add, ksub, kdv, kd8, kd64, kd2, kd3, km8, km64, kt8, ke8, ke64, kcl, kin, kle, klt, keq, up_s, up_n, up_u, true_and, and_true, false_implies, true_implies, not_false_eq_true, not_true_eq_false, b1, b2, b3, n10, g1, g2, g3, qe, z2, z4, z5]
          repeat' (first | refine And.intro (fun _ => ?_) (fun _ => ?_) | (refine b_X11_paste_73 ?_; simp (disch := omega) only [pk_mul, nI_add, ksub, kdv, kd8, kd64, kd2, kd3, km8, km64, kt8, ke8, ke64, kcl, kin, kle, klt, keq, up_s, up_n, up_u, true_and, and_true, false_implies, true_implies, not_false_eq_true, not_true_eq_false, kzl, kl3, knl, gx, gy, eq_self, a4, a5, qw, d4, d5, qw2, qe, z2, z4, z5]; repeat' (first | exact hQ _ _ _ f1 | refine And.intro (fun _ => ?_) (fun _ => ?_))))
        obtain ⟨a, ha, rfl⟩ := nI_of z2
        obtain ⟨b, hb, rfl⟩ := nI_of z4
        obtain ⟨n, hn, rfl⟩ := nI_of z5
        by_cases h1 : c < n
        · have k1 := eq_true h1
          have k2 : (c < a + n) = True := eq_true (by omega)
          refine b_X10_paste_0_c2_c1 ?_
          simp (disch := omega) only [pk_mul, nI_add, ksub, kdv, kd8, kd64, kd2, kd3, km8, km64, kt8, ke8, ke64, kcl, kin, kle, klt, keq, up_s, up_n, up_u, true_and, and_true, false_implies, true_implies, not_false_eq_true, not_true_eq_false, b1, b2, b3, n10, g1, g2, g3, qe, knl, k1]
          repeat' (first | refine And.intro (fun _ => ?_) (fun _ => ?_) | (refine b_X11_paste_73 ?_; simp (disch := omega) only [pk_mul, nI_add, ksub, kdv, kd8, kd64, kd2, kd3, km8, km64, kt8, ke8, ke64, kcl, kin, kle, klt, keq, up_s, up_n, up_u, true_and, and_true, false_implies, true_implies, not_false_eq_true, not_true_eq_false, kzl, kl3, knl, gx, gy, eq_self, a4, a5, qw, d4, d5, qw2, qe, kadd, k2]; repeat' (first | exact hQ _ _ _ f1 | refine And.intro (fun _ => ?_) (fun _ => ?_))))
        have k1 := eq_false h1
        by_cases h2 : c - n < a
        · have k3 := eq_true h2
          have k2 : (c < a + n) = True := eq_true (by omega)
          refine b_X10_paste_0_c2_c1 ?_
          simp (disch := omega) only [pk_mul, nI_add, ksub, kdv, kd8, kd64, kd2, kd3, km8, km64, kt8, ke8, ke64, kcl, kin, kle, klt, keq, up_s, up_n, up_u, true_and, and_true, false_implies, true_implies, not_false_eq_true, not_true_eq_false, b1, b2, b3, n10, g1, g2, g3, qe, knl, k1, k3]
          repeat' (first | refine And.intro (fun _ => ?_) (fun _ => ?_) | (refine b_X11_paste_73 ?_; simp (disch := omega) only [pk_mul, nI_add, ksub, kdv, kd8, kd64, kd2, kd3, km8, km64, kt8, ke8, ke64, kcl, kin, kle, klt, keq, up_s, up_n, up_u, true_and, and_true, false_implies, true_implies, not_false_eq_true, not_true_eq_false, kzl, kl3, knl, gx, gy, eq_self, a4, a5, qw, d4, d5, qw2, qe, kadd, k2]; repeat' (first | exact hQ _ _ _ f1 | refine And.intro (fun _ => ?_) (fun _ => ?_))))
        have k3 := eq_false h2
        have k2 : (c < a + n) = False := eq_false (by omega)
        by_cases h3 : c2 < n
        · have k4 := eq_true h3
          have k5 : (c2 < b + n) = True := eq_true (by omega)
          refine b_X10_paste_0_c2_c1 ?_
          simp (disch := omega) only [pk_mul, nI_add, ksub, kdv, kd8, kd64, kd2, kd3, km8, km64, kt8, ke8, ke64, kcl, kin, kle, klt, keq, up_s, up_n, up_u, true_and, and_true, false_implies, true_implies, not_false_eq_true, not_true_eq_false, b1, b2, b3, n10, g1, g2, g3, qe, knl, k1, k3, k4]
          repeat' (first | refine And.intro (fun _ => ?_) (fun _ => ?_) | (refine b_X11_paste_73 ?_; simp (disch := omega) only [pk_mul, nI_add, ksub, kdv, kd8, kd64, kd2, kd3, km8, km64, kt8, ke8, ke64, kcl, kin, kle, klt, keq, up_s, up_n, up_u, true_and, and_true, false_implies, true_implies, not_false_eq_true, not_true_eq_false, kzl, kl3, knl, gx, gy, eq_self, a4, a5, qw, d4, d5, qw2, qe, kadd, k2, k5]; repeat' (first | exact hQ _ _ _ f1 | refine And.intro (fun _ => ?_) (fun _ => ?_))))
        have k4 := eq_false h3
        by_cases h4 : c2 - n < b
        · have k6 := eq_true h4
          have k5 : (c2 < b + n) = True := eq_true (by omega)
          refine b_X10_paste_0_c2_c1 ?_
          simp (disch := omega) only [pk_mul, nI_add, ksub, kdv, kd8, kd64, kd2, kd3, km8, km64, kt8, ke8, ke64, kcl, kin, kle, klt, keq, up_s, up_n, up_u, true_and, and_true, false_implies, true_implies, not_false_eq_true, not_true_eq_false, b1, b2, b3, n10, g1, g2, g3, qe, knl, k1, k3, k4, k6]
          repeat' (first | refine And.intro (fun _ => ?_) (fun _ => ?_) | (refine b_X11_paste_73 ?_; simp (disch := omega) only [pk_mul, nI_add, ksub, kdv, kd8, kd64, kd2, kd3, km8, km64, kt8, ke8, ke64, kcl, kin, kle, klt, keq, up_s, up_n, up_u, true_and, and_true, false_implies, true_implies, not_false_eq_true, not_true_eq_false, kzl, kl3, knl, gx, gy, eq_self, a4, a5, qw, d4, d5, qw2, qe, kadd, k2, k5]; repeat' (first | exact hQ _ _ _ f1 | refine And.intro (fun _ => ?_) (fun _ => ?_))))
        have k6 := eq_false h4
        have k5 : (c2 < b + n) = False := eq_false (by omega)
        have z1 : (a + n ≤ 60) = True := eq_true (by omega)
        have z3 : (b + n ≤ 60) = True := eq_true (by omega)
        have nz : ∀ k : Nat, k < 2147483648 → (nI k < 0) = False := fun k hk => by
          have h9 : (nI k < nI 0) = (k < 0) := klt (by omega) (by omega)
          rw [knl] at h9
          exact h9
        refine b_X10_paste_0_c2_c1 ?_
        simp (disch := omega) only [pk_mul, nI_add, ksub, kdv, kd8, kd64, kd2, kd3, km8, km64, kt8, ke8, ke64, kcl, kin, kle, klt, keq, up_s, up_n, up_u, true_and, and_true, false_implies, true_implies, not_false_eq_true, not_true_eq_false, b1, b2, b3, n10, g1, g2, g3, qe, knl, k1, k3, k4, k6, z1, z3, nz]
        refine b_X11_paste_73 ?_
        simp (disch := omega) only [pk_mul, nI_add, ksub, kdv, kd8, kd64, kd2, kd3, km8, km64, kt8, ke8, ke64, kcl, kin, kle, klt, keq, up_s, up_n, up_u, true_and, and_true, false_implies, true_implies, not_false_eq_true, not_true_eq_false, kzl, kl3, knl, gx, gy, eq_self, a4, a5, qw, d4, d5, qw2, qe, kadd, k2, k5]
        refine m_paste (by decide) (by decide) (by omega) (by omega) (fun M m1 m2 m3 => hQ _ _ _ (Rel_L f1 (SL_p (x := 2) (y := 1) (a := a) (b := b) (n := n) (c := c) hS1 (by decide) a6 (by omega) (by omega) ?_ (fun s hs hne => ?_) (fun k hk => ?_) (fun k hk => ?_))))
        · rw [m1 _ (by decide) (by decide)]
          rfl
        · rw [m1 _ (by omega) (by omega), up_n (by omega)]
        · rw [m2 k hk]
          rfl
        · rw [m3 k hk]
          rfl
      · have qe := eq_false hww
        refine b_X10_paste_0_c2_c1 ?_
        simp (disch := omega) only [pk_mul, nI_add, ksub, kdv, kd8, kd64, kd2, kd3, km8, km64, kt8, ke8, ke64, kcl, kin, kle, klt, keq, up_s, up_n, up_u, true_and, and_true, false_implies, true_implies, not_false_eq_true, not_true_eq_false, b1, b2, b3, n10, g1, g2, g3, qe]
        refine b_X11_paste_73 ?_
        simp (disch := omega) only [pk_mul, nI_add, ksub, kdv, kd8, kd64, kd2, kd3, km8, km64, kt8, ke8, ke64, kcl, kin, kle, klt, keq, up_s, up_n, up_u, true_and, and_true, false_implies, true_implies, not_false_eq_true, not_true_eq_false, kzl, kl3, knl, gx, gy, eq_self, a4, a5, qw, d4, d5, qw2, qe]
        exact hQ _ _ _ f1
theorem w_paste_2_2 {B : tw → Nat × Nat × (Nat → Nat)} {e : am_V} {I : Nat → Nat → Int32} {L : Nat → Nat → Int64} {t : tw} {m : Nat} {v2 v4 v5 : Int32} {Q : Int32 → Int32 → (Nat → Nat → Int32) → (Nat → Nat → Int64) → Prop} (hR : Rel B e t I L m) (hQ : ∀ r J M, Rel B e t J M m → Q r r J M) : C_X10_paste_0 e (nI 2) v2 (nI 2) v4 v5 I L (fun r J M => C_X11_paste_73 e (nI 2) v2 (nI 2) v4 v5 J M (fun r' K N => Q r r' K N)) := by
  have f1 : Rel B e t (va_up I 73 (va_up (I 73) 0 (nI 0))) L m := Rel_q hR (fr_73 (fr_refl _ _ _) rfl) (frL_r L) (Nat.le_refl _)
  have hS := hR.2.2.2.2.1
  have hS1 := f1.2.2.2.2.1
  have gx : (2 ≤ 3) = True := eq_true (by decide)
  have gy : (2 ≤ 3) = True := eq_true (by decide)
  have q2 : ((-1 : Int32) = (-1 : Int32)) = True := eq_true rfl
  have n00 : ((0 : Nat) = 0) = True := eq_true rfl
  rcases hS 2 (by decide) with ⟨a1, a2⟩ | ⟨w, c, hw, hc, a1, a2, a3, a4, a5, a6⟩
  · have b1 : I 33 1 = nI 0 := a1
    refine b_X10_paste_0_c2_c2 ?_
    simp (disch := omega) only [pk_mul, nI_add, ksub, kdv, kd8, kd64, kd2, kd3, km8, km64, kt8, ke8, ke64, kcl, kin, kle, klt, keq, up_s, up_n, up_u, true_and, and_true, false_implies, true_implies, not_false_eq_true, not_true_eq_false, b1, n00]
    refine b_X11_paste_73 ?_
    simp (disch := omega) only [pk_mul, nI_add, ksub, kdv, kd8, kd64, kd2, kd3, km8, km64, kt8, ke8, ke64, kcl, kin, kle, klt, keq, up_s, up_n, up_u, true_and, and_true, false_implies, true_implies, not_false_eq_true, not_true_eq_false, kzl, kl3, knl, gx, gy, eq_self, a2, q2]
    exact hQ _ _ _ f1
  · have b1 : I 33 1 = nI 1 := a1
    have b2 : I 33 2 = nI w := a2
    have b3 : I 33 3 = nI c := a3
    have qw := km1 (n := w) (by omega)
    by_cases z2 : v2 < nI 0
    · skip
      refine b_X10_paste_0_c2_c2 ?_
      simp (disch := omega) only [pk_mul, nI_add, ksub, kdv, kd8, kd64, kd2, kd3, km8, km64, kt8, ke8, ke64, kcl, kin, kle, klt, keq, up_s, up_n, up_u, true_and, and_true, false_implies, true_implies, not_false_eq_true, not_true_eq_false, b1, b2, b3, n10, eq_self, z2]
      repeat' (first | refine And.intro (fun _ => ?_) (fun _ => ?_) | (refine b_X11_paste_73 ?_; simp (disch := omega) only [pk_mul, nI_add, ksub, kdv, kd8, kd64, kd2, kd3, km8, km64, kt8, ke8, ke64, kcl, kin, kle, klt, keq, up_s, up_n, up_u, true_and, and_true, false_implies, true_implies, not_false_eq_true, not_true_eq_false, kzl, kl3, knl, gx, gy, eq_self, a4, a5, qw, z2]; repeat' (first | exact hQ _ _ _ f1 | refine And.intro (fun _ => ?_) (fun _ => ?_))))
    by_cases z4 : v4 < nI 0
    · skip
      refine b_X10_paste_0_c2_c2 ?_
      simp (disch := omega) only [pk_mul, nI_add, ksub, kdv, kd8, kd64, kd2, kd3, km8, km64, kt8, ke8, ke64, kcl, kin, kle, klt, keq, up_s, up_n, up_u, true_and, and_true, false_implies, true_implies, not_false_eq_true, not_true_eq_false, b1, b2, b3, n10, eq_self, z2, z4]
      repeat' (first | refine And.intro (fun _ => ?_) (fun _ => ?_) | (refine b_X11_paste_73 ?_; simp (disch := omega) only [pk_mul, nI_add, ksub, kdv, kd8, kd64, kd2, kd3, km8, km64, kt8, ke8, ke64, kcl, kin, kle, klt, keq, up_s, up_n, up_u, true_and, and_true, false_implies, true_implies, not_false_eq_true, not_true_eq_false, kzl, kl3, knl, gx, gy, eq_self, a4, a5, qw, z2, z4]; repeat' (first | exact hQ _ _ _ f1 | refine And.intro (fun _ => ?_) (fun _ => ?_))))
    by_cases z5 : v5 < nI 0
    · skip
      refine b_X10_paste_0_c2_c2 ?_
      simp (disch := omega) only [pk_mul, nI_add, ksub, kdv, kd8, kd64, kd2, kd3, km8, km64, kt8, ke8, ke64, kcl, kin, kle, klt, keq, up_s, up_n, up_u, true_and, and_true, false_implies, true_implies, not_false_eq_true, not_true_eq_false, b1, b2, b3, n10, eq_self, z2, z4, z5]
      repeat' (first | refine And.intro (fun _ => ?_) (fun _ => ?_) | (refine b_X11_paste_73 ?_; simp (disch := omega) only [pk_mul, nI_add, ksub, kdv, kd8, kd64, kd2, kd3, km8, km64, kt8, ke8, ke64, kcl, kin, kle, klt, keq, up_s, up_n, up_u, true_and, and_true, false_implies, true_implies, not_false_eq_true, not_true_eq_false, kzl, kl3, knl, gx, gy, eq_self, a4, a5, qw, z2, z4, z5]; repeat' (first | exact hQ _ _ _ f1 | refine And.intro (fun _ => ?_) (fun _ => ?_))))
    obtain ⟨a, ha, rfl⟩ := nI_of z2
    obtain ⟨b, hb, rfl⟩ := nI_of z4
    obtain ⟨n, hn, rfl⟩ := nI_of z5
    by_cases h1 : c < n
    · have k1 := eq_true h1
      have k2 : (c < a + n) = True := eq_true (by omega)
      refine b_X10_paste_0_c2_c2 ?_
      simp (disch := omega) only [pk_mul, nI_add, ksub, kdv, kd8, kd64, kd2, kd3, km8, km64, kt8, ke8, ke64, kcl, kin, kle, klt, keq, up_s, up_n, up_u, true_and, and_true, false_implies, true_implies, not_false_eq_true, not_true_eq_false, b1, b2, b3, n10, eq_self, knl, k1]
      repeat' (first | refine And.intro (fun _ => ?_) (fun _ => ?_) | (refine b_X11_paste_73 ?_; simp (disch := omega) only [pk_mul, nI_add, ksub, kdv, kd8, kd64, kd2, kd3, km8, km64, kt8, ke8, ke64, kcl, kin, kle, klt, keq, up_s, up_n, up_u, true_and, and_true, false_implies, true_implies, not_false_eq_true, not_true_eq_false, kzl, kl3, knl, gx, gy, eq_self, a4, a5, qw, kadd, k2]; repeat' (first | exact hQ _ _ _ f1 | refine And.intro (fun _ => ?_) (fun _ => ?_))))
    have k1 := eq_false h1
    by_cases h2 : c - n < a
    · have k3 := eq_true h2
      have k2 : (c < a + n) = True := eq_true (by omega)
      refine b_X10_paste_0_c2_c2 ?_
      simp (disch := omega) only [pk_mul, nI_add, ksub, kdv, kd8, kd64, kd2, kd3, km8, km64, kt8, ke8, ke64, kcl, kin, kle, klt, keq, up_s, up_n, up_u, true_and, and_true, false_implies, true_implies, not_false_eq_true, not_true_eq_false, b1, b2, b3, n10, eq_self, knl, k1, k3]
      repeat' (first | refine And.intro (fun _ => ?_) (fun _ => ?_) | (refine b_X11_paste_73 ?_; simp (disch := omega) only [pk_mul, nI_add, ksub, kdv, kd8, kd64, kd2, kd3, km8, km64, kt8, ke8, ke64, kcl, kin, kle, klt, keq, up_s, up_n, up_u, true_and, and_true, false_implies, true_implies, not_false_eq_true, not_true_eq_false, kzl, kl3, knl, gx, gy, eq_self, a4, a5, qw, kadd, k2]; repeat' (first | exact hQ _ _ _ f1 | refine And.intro (fun _ => ?_) (fun _ => ?_))))
    have k3 := eq_false h2
    have k2 : (c < a + n) = False := eq_false (by omega)
    have k4 := k1
    by_cases h4 : c - n < b
    · have k6 := eq_true h4
      have k5 : (c < b + n) = True := eq_true (by omega)
      refine b_X10_paste_0_c2_c2 ?_
      simp (disch := omega) only [pk_mul, nI_add, ksub, kdv, kd8, kd64, kd2, kd3, km8, km64, kt8, ke8, ke64, kcl, kin, kle, klt, keq, up_s, up_n, up_u, true_and, and_true, false_implies, true_implies, not_false_eq_true, not_true_eq_false, b1, b2, b3, n10, eq_self, knl, k1, k3, k4, k6]
      repeat' (first | refine And.intro (fun _ => ?_) (fun _ => ?_) | (refine b_X11_paste_73 ?_; simp (disch := omega) only [pk_mul, nI_add, ksub, kdv, kd8, kd64, kd2, kd3, km8, km64, kt8, ke8, ke64, kcl, kin, kle, klt, keq, up_s, up_n, up_u, true_and, and_true, false_implies, true_implies, not_false_eq_true, not_true_eq_false, kzl, kl3, knl, gx, gy, eq_self, a4, a5, qw, kadd, k2, k5]; repeat' (first | exact hQ _ _ _ f1 | refine And.intro (fun _ => ?_) (fun _ => ?_))))
    have k6 := eq_false h4
    have k5 : (c < b + n) = False := eq_false (by omega)
    have z1 : (a + n ≤ 60) = True := eq_true (by omega)
    have z3 : (b + n ≤ 60) = True := eq_true (by omega)
    have nz : ∀ k : Nat, k < 2147483648 → (nI k < 0) = False := fun k hk => by
      have h9 : (nI k < nI 0) = (k < 0) := klt (by omega) (by omega)
      rw [knl] at h9
      exact h9
    refine b_X10_paste_0_c2_c2 ?_
    simp (disch := omega) only [pk_mul, nI_add, ksub, kdv, kd8, kd64, kd2, kd3, km8, km64, kt8, ke8, ke64, kcl, kin, kle, klt, keq, up_s, up_n, up_u, true_and, and_true, false_implies, true_implies, not_false_eq_true, not_true_eq_false, b1, b2, b3, n10, eq_self, knl, k1, k3, k4, k6, z1, z3, nz]
    refine b_X11_paste_73 ?_
    simp (disch := omega) only [pk_mul, nI_add, ksub, kdv, kd8, kd64, kd2, kd3, km8, km64, kt8, ke8, ke64, kcl, kin, kle, klt, keq, up_s, up_n, up_u, true_and, and_true, false_implies, true_implies, not_false_eq_true, not_true_eq_false, kzl, kl3, knl, gx, gy, eq_self, a4, a5, qw, kadd, k2, k5]
    refine m_paste (by decide) (by decide) (by omega) (by omega) (fun M m1 m2 m3 => hQ _ _ _ (Rel_L f1 (SL_p (x := 2) (y := 2) (a := a) (b := b) (n := n) (c := c) hS1 (by decide) a6 (by omega) (by omega) ?_ (fun s hs hne => ?_) (fun k hk => ?_) (fun k hk => ?_))))
    · rw [m1 _ (by decide) (by decide)]
      rfl
    · rw [m1 _ (by omega) (by omega), up_n (by omega)]
    · rw [m2 k hk]
      rfl
    · rw [m3 k hk]
      rfl
theorem w_paste_2_3 {B : tw → Nat × Nat × (Nat → Nat)} {e : am_V} {I : Nat → Nat → Int32} {L : Nat → Nat → Int64} {t : tw} {m : Nat} {v2 v4 v5 : Int32} {Q : Int32 → Int32 → (Nat → Nat → Int32) → (Nat → Nat → Int64) → Prop} (hR : Rel B e t I L m) (hQ : ∀ r J M, Rel B e t J M m → Q r r J M) : C_X10_paste_0 e (nI 2) v2 (nI 3) v4 v5 I L (fun r J M => C_X11_paste_73 e (nI 2) v2 (nI 3) v4 v5 J M (fun r' K N => Q r r' K N)) := by
  have f1 : Rel B e t (va_up I 73 (va_up (I 73) 0 (nI 0))) L m := Rel_q hR (fr_73 (fr_refl _ _ _) rfl) (frL_r L) (Nat.le_refl _)
  have hS := hR.2.2.2.2.1
  have hS1 := f1.2.2.2.2.1
  have gx : (2 ≤ 3) = True := eq_true (by decide)
  have gy : (3 ≤ 3) = True := eq_true (by decide)
  have q2 : ((-1 : Int32) = (-1 : Int32)) = True := eq_true rfl
  have n00 : ((0 : Nat) = 0) = True := eq_true rfl
  rcases hS 2 (by decide) with ⟨a1, a2⟩ | ⟨w, c, hw, hc, a1, a2, a3, a4, a5, a6⟩
  · have b1 : I 33 1 = nI 0 := a1
    refine b_X10_paste_0_c2_c3 ?_
    simp (disch := omega) only [pk_mul, nI_add, ksub, kdv, kd8, kd64, kd2, kd3, km8, km64, kt8, ke8, ke64, kcl, kin, kle, klt, keq, up_s, up_n, up_u, true_and, and_true, false_implies, true_implies, not_false_eq_true, not_true_eq_false, b1, n00]
    refine b_X11_paste_73 ?_
    simp (disch := omega) only [pk_mul, nI_add, ksub, kdv, kd8, kd64, kd2, kd3, km8, km64, kt8, ke8, ke64, kcl, kin, kle, klt, keq, up_s, up_n, up_u, true_and, and_true, false_implies, true_implies, not_false_eq_true, not_true_eq_false, kzl, kl3, knl, gx, gy, eq_self, a2, q2]
    exact hQ _ _ _ f1
  · have b1 : I 33 1 = nI 1 := a1
    have b2 : I 33 2 = nI w := a2
    have b3 : I 33 3 = nI c := a3
    have qw := km1 (n := w) (by omega)
    rcases hS 3 (by decide) with ⟨d1, d2⟩ | ⟨w2, c2, hw2, hc2, d1, d2, d3, d4, d5, d6⟩
    · have g1 : I 35 1 = nI 0 := d1
      refine b_X10_paste_0_c2_c3 ?_
      simp (disch := omega) only [pk_mul, nI_add, ksub, kdv, kd8, kd64, kd2, kd3, km8, km64, kt8, ke8, ke64, kcl, kin, kle, klt, keq, up_s, up_n, up_u, true_and, and_true, false_implies, true_implies, not_false_eq_true, not_true_eq_false, b1, g1, n10, n00]
      refine b_X11_paste_73 ?_
      simp (disch := omega) only [pk_mul, nI_add, ksub, kdv, kd8, kd64, kd2, kd3, km8, km64, kt8, ke8, ke64, kcl, kin, kle, klt, keq, up_s, up_n, up_u, true_and, and_true, false_implies, true_implies, not_false_eq_true, not_true_eq_false, kzl, kl3, knl, gx, gy, eq_self, a4, qw, d2, q2]
      exact hQ _ _ _ f1
    · have g1 : I 35 1 = nI 1 := d1
      have g2 : I 35 2 = nI w2 := d2
      have g3 : I 35 3 = nI c2 := d3
      have qw2 := km1 (n := w2) (by omega)
      by_cases hww : w = w2
      · have qe := eq_true hww
        by_cases z2 : v2 < nI 0
        · skip
          refine b_X10_paste_0_c2_c3 ?_
          simp (disch := omega) only [pk_mul, nI_add, ksub, kdv, kd8, kd64, kd2, kd3, km8, km64, kt8, ke8, ke64, kcl, kin, kle, klt, keq, up_s, up_n, up_u, true_and, and_true, false_implies, true_implies, not_false_eq_true, not_true_eq_false, b1, b2, b3, n10, g1, g2, g3, qe, z2]
          repeat' (first | refine And.intro (fun _ => ?_) (fun _ => ?_) | (refine b_X11_paste_73 ?_; simp (disch := omega) only [pk_mul, nI_add, ksub, kdv, kd8, kd64, kd2, kd3, km8, km64, kt8, ke8, ke64, kcl, kin, kle, klt, keq, up_s, up_n, up_u, true_and, and_true, false_implies, true_implies, not_false_eq_true, not_true_eq_false, kzl, kl3, knl, gx, gy, eq_self, a4, a5, qw, d4, d5, qw2, qe, z2]; repeat' (first | exact hQ _ _ _ f1 | refine And.intro (fun _ => ?_) (fun _ => ?_))))
        by_cases z4 : v4 < nI 0
        · skip
          refine b_X10_paste_0_c2_c3 ?_
          simp (disch := omega) only [pk_mul, nI_add, ksub, kdv, kd8, kd64, kd2, kd3, km8, km64, kt8, ke8, ke64, kcl, kin, kle, klt, keq, up_s, up_n, up_u, true_and, and_true, false_implies, true_implies, not_false_eq_true, not_true_eq_false, b1, b2, b3, n10, g1, g2, g3, qe, z2, z4]
          repeat' (first | refine And.intro (fun _ => ?_) (fun _ => ?_) | (refine b_X11_paste_73 ?_; simp (disch := omega) only [pk_mul, nI_add, ksub, kdv, kd8, kd64, kd2, kd3, km8, km64, kt8, ke8, ke64, kcl, kin, kle, klt, keq, up_s, up_n, up_u, true_and, and_true, false_implies, true_implies, not_false_eq_true, not_true_eq_false, kzl, kl3, knl, gx, gy, eq_self, a4, a5, qw, d4, d5, qw2, qe, z2, z4]; repeat' (first | exact hQ _ _ _ f1 | refine And.intro (fun _ => ?_) (fun _ => ?_))))
        by_cases z5 : v5 < nI 0
        · skip
          refine b_X10_paste_0_c2_c3 ?_
          simp (disch := omega) only [pk_mul, nI_add, ksub, kdv, kd8, kd64, kd2, kd3, km8, km64, kt8, ke8, ke64, kcl, kin, kle, klt, keq, up_s, up_n, up_u, true_and, and_true, false_implies, true_implies, not_false_eq_true, not_true_eq_false, b1, b2, b3, n10, g1, g2, g3, qe, z2, z4, z5]
          repeat' (first | refine And.intro (fun _ => ?_) (fun _ => ?_) | (refine b_X11_paste_73 ?_; simp (disch := omega) only [pk_mul, nI_add, ksub, kdv, kd8, kd64, kd2, kd3, km8, km64, kt8, ke8, ke64, kcl, kin, kle, klt, keq, up_s, up_n, up_u, true_and, and_true, false_implies, true_implies, not_false_eq_true, not_true_eq_false, kzl, kl3, knl, gx, gy, eq_self, a4, a5, qw, d4, d5, qw2, qe, z2, z4, z5]; repeat' (first | exact hQ _ _ _ f1 | refine And.intro (fun _ => ?_) (fun _ => ?_))))
        obtain ⟨a, ha, rfl⟩ := nI_of z2
        obtain ⟨b, hb, rfl⟩ := nI_of z4
        obtain ⟨n, hn, rfl⟩ := nI_of z5
        by_cases h1 : c < n
        · have k1 := eq_true h1
          have k2 : (c < a + n) = True := eq_true (by omega)
          refine b_X10_paste_0_c2_c3 ?_
          simp (disch := omega) only [pk_mul, nI_add, ksub, kdv, kd8, kd64, kd2, kd3, km8, km64, kt8, ke8, ke64, kcl, kin, kle, klt, keq, up_s, up_n, up_u, true_and, and_true, false_implies, true_implies, not_false_eq_true, not_true_eq_false, b1, b2, b3, n10, g1, g2, g3, qe, knl, k1]
          repeat' (first | refine And.intro (fun _ => ?_) (fun _ => ?_) | (refine b_X11_paste_73 ?_; simp (disch := omega) only [pk_mul, nI_add, ksub, kdv, kd8, kd64, kd2, kd3, km8, km64, kt8, ke8, ke64, kcl, kin, kle, klt, keq, up_s, up_n, up_u, true_and, and_true, false_implies, true_implies, not_false_eq_true, not_true_eq_false, kzl, kl3, knl, gx, gy, eq_self, a4, a5, qw, d4, d5, qw2, qe, kadd, k2]; repeat' (first | exact hQ _ _ _ f1 | refine And.intro (fun _ => ?_) (fun _ => ?_))))
        have k1 := eq_false h1
        by_cases h2 : c - n < a
        · have k3 := eq_true h2
          have k2 : (c < a + n) = True := eq_true (by omega)
          refine b_X10_paste_0_c2_c3 ?_
          simp (disch := omega) only [pk_mul, nI_add, ksub, kdv, kd8, kd64, kd2, kd3, km8, km64, kt8, ke8, ke64, kcl, kin, kle, klt, keq, up_s, up_n, up_u, true_and, and_true, false_implies, true_implies, not_false_eq_true, not_true_eq_false, b1, b2, b3, n10, g1, g2, g3, qe, knl, k1, k3]
          repeat' (first | refine And.intro (fun _ => ?_) (fun _ => ?_) | (refine b_X11_paste_73 ?_; simp (disch := omega) only [pk_mul, nI_add, ksub, kdv, kd8, kd64, kd2, kd3, km8, km64, kt8, ke8, ke64, kcl, kin, kle, klt, keq, up_s, up_n, up_u, true_and, and_true, false_implies, true_implies, not_false_eq_true, not_true_eq_false, kzl, kl3, knl, gx, gy, eq_self, a4, a5, qw, d4, d5, qw2, qe, kadd, k2]; repeat' (first | exact hQ _ _ _ f1 | refine And.intro (fun _ => ?_) (fun _ => ?_))))
        have k3 := eq_false h2
        have k2 : (c < a + n) = False := eq_false (by omega)
        by_cases h3 : c2 < n
        · have k4 := eq_true h3
          have k5 : (c2 < b + n) = True := eq_true (by omega)
          refine b_X10_paste_0_c2_c3 ?_
          simp (disch := omega) only [pk_mul, nI_add, ksub, kdv, kd8, kd64, kd2, kd3, km8, km64, kt8, ke8, ke64, kcl, kin, kle, klt, keq, up_s, up_n, up_u, true_and, and_true, false_implies, true_implies, not_false_eq_true, not_true_eq_false, b1, b2, b3, n10, g1, g2, g3, qe, knl, k1, k3, k4]
          repeat' (first | refine And.intro (fun _ => ?_) (fun _ => ?_) | (refine b_X11_paste_73 ?_; simp (disch := omega) only [pk_mul, nI_add, ksub, kdv, kd8, kd64, kd2, kd3, km8, km64, kt8, ke8, ke64, kcl, kin, kle, klt, keq, up_s, up_n, up_u, true_and, and_true, false_implies, true_implies, not_false_eq_true, not_true_eq_false, kzl, kl3, knl, gx, gy, eq_self, a4, a5, qw, d4, d5, qw2, qe, kadd, k2, k5]; repeat' (first | exact hQ _ _ _ f1 | refine And.intro (fun _ => ?_) (fun _ => ?_))))
        have k4 := eq_false h3
        by_cases h4 : c2 - n < b
        · have k6 := eq_true h4
          have k5 : (c2 < b + n) = True := eq_true (by omega)
          refine b_X10_paste_0_c2_c3 ?_
          simp (disch := omega) only [pk_mul, nI_add, ksub, kdv, kd8, kd64, kd2, kd3, km8, km64, kt8, ke8, ke64, kcl, kin, kle, klt, keq, up_s, up_n, up_u, true_and, and_true, false_implies, true_implies, not_false_eq_true, not_true_eq_false, b1, b2, b3, n10, g1, g2, g3, qe, knl, k1, k3, k4, k6]
          repeat' (first | refine And.intro (fun _ => ?_) (fun _ => ?_) | (refine b_X11_paste_73 ?_; simp (disch := omega) only [pk_mul, nI_add, ksub, kdv, kd8, kd64, kd2, kd3, km8, km64, kt8, ke8, ke64, kcl, kin, kle, klt, keq, up_s, up_n, up_u, true_and, and_true, false_implies, true_implies, not_false_eq_true, not_true_eq_false, kzl, kl3, knl, gx, gy, eq_self, a4, a5, qw, d4, d5, qw2, qe, kadd, k2, k5]; repeat' (first | exact hQ _ _ _ f1 | refine And.intro (fun _ => ?_) (fun _ => ?_))))
        have k6 := eq_false h4
        have k5 : (c2 < b + n) = False := eq_false (by omega)
        have z1 : (a + n ≤ 60) = True := eq_true (by omega)
        have z3 : (b + n ≤ 60) = True := eq_true (by omega)
        have nz : ∀ k : Nat, k < 2147483648 → (nI k < 0) = False := fun k hk => by
          have h9 : (nI k < nI 0) = (k < 0) := klt (by omega) (by omega)
          rw [knl] at h9
          exact h9
        refine b_X10_paste_0_c2_c3 ?_
        simp (disch := omega) only [pk_mul, nI_add, ksub, kdv, kd8, kd64, kd2, kd3, km8, km64, kt8, ke8, ke64, kcl, kin, kle, klt, keq, up_s, up_n, up_u, true_and, and_true, false_implies, true_implies, not_false_eq_true, not_true_eq_false, b1, b2, b3, n10, g1, g2, g3, qe, knl, k1, k3, k4, k6, z1, z3, nz]
        refine b_X11_paste_73 ?_
        simp (disch := omega) only [pk_mul, nI_add, ksub, kdv, kd8, kd64, kd2, kd3, km8, km64, kt8, ke8, ke64, kcl, kin, kle, klt, keq, up_s, up_n, up_u, true_and, and_true, false_implies, true_implies, not_false_eq_true, not_true_eq_false, kzl, kl3, knl, gx, gy, eq_self, a4, a5, qw, d4, d5, qw2, qe, kadd, k2, k5]
        refine m_paste (by decide) (by decide) (by omega) (by omega) (fun M m1 m2 m3 => hQ _ _ _ (Rel_L f1 (SL_p (x := 2) (y := 3) (a := a) (b := b) (n := n) (c := c) hS1 (by decide) a6 (by omega) (by omega) ?_ (fun s hs hne => ?_) (fun k hk => ?_) (fun k hk => ?_))))
        · rw [m1 _ (by decide) (by decide)]
          rfl
        · rw [m1 _ (by omega) (by omega), up_n (by omega)]
        · rw [m2 k hk]
          rfl
        · rw [m3 k hk]
          rfl
      · have qe := eq_false hww
        refine b_X10_paste_0_c2_c3 ?_
        simp (disch := omega) only [pk_mul, nI_add, ksub, kdv, kd8, kd64, kd2, kd3, km8, km64, kt8, ke8, ke64, kcl, kin, kle, klt, keq, up_s, up_n, up_u, true_and, and_true, false_implies, true_implies, not_false_eq_true, not_true_eq_false, b1, b2, b3, n10, g1, g2, g3, qe]
        refine b_X11_paste_73 ?_
        simp (disch := omega) only [pk_mul, nI_add, ksub, kdv, kd8, kd64, kd2, kd3, km8, km64, kt8, ke8, ke64, kcl, kin, kle, klt, keq, up_s, up_n, up_u, true_and, and_true, false_implies, true_implies, not_false_eq_true, not_true_eq_false, kzl, kl3, knl, gx, gy, eq_self, a4, a5, qw, d4, d5, qw2, qe]
        exact hQ _ _ _ f1
theorem w_paste_3_0 {B : tw → Nat × Nat × (Nat → Nat)} {e : am_V} {I : Nat → Nat → Int32} {L : Nat → Nat → Int64} {t : tw} {m : Nat} {v2 v4 v5 : Int32} {Q : Int32 → Int32 → (Nat → Nat → Int32) → (Nat → Nat → Int64) → Prop} (hR : Rel B e t I L m) (hQ : ∀ r J M, Rel B e t J M m → Q r r J M) : C_X10_paste_0 e (nI 3) v2 (nI 0) v4 v5 I L (fun r J M => C_X11_paste_73 e (nI 3) v2 (nI 0) v4 v5 J M (fun r' K N => Q r r' K N)) := by
  have f1 : Rel B e t (va_up I 73 (va_up (I 73) 0 (nI 0))) L m := Rel_q hR (fr_73 (fr_refl _ _ _) rfl) (frL_r L) (Nat.le_refl _)
  have hS := hR.2.2.2.2.1
  have hS1 := f1.2.2.2.2.1
  have gx : (3 ≤ 3) = True := eq_true (by decide)
  have gy : (0 ≤ 3) = True := eq_true (by decide)
  have q2 : ((-1 : Int32) = (-1 : Int32)) = True := eq_true rfl
  have n00 : ((0 : Nat) = 0) = True := eq_true rfl
  rcases hS 3 (by decide) with ⟨a1, a2⟩ | ⟨w, c, hw, hc, a1, a2, a3, a4, a5, a6⟩
  · have b1 : I 35 1 = nI 0 := a1
    refine b_X10_paste_0_c3_c0 ?_
    simp (disch := omega) only [pk_mul, nI_add, ksub, kdv, kd8, kd64, kd2, kd3, km8, km64, kt8, ke8, ke64, kcl, kin, kle, klt, keq, up_s, up_n, up_u, true_and, and_true, false_implies, true_implies, not_false_eq_true, not_true_eq_false, b1, n00]
    refine b_X11_paste_73 ?_
    simp (disch := omega) only [pk_mul, nI_add, ksub, kdv, kd8, kd64, kd2, kd3, km8, km64, kt8, ke8, ke64, kcl, kin, kle, klt, keq, up_s, up_n, up_u, true_and, and_true, false_implies, true_implies, not_false_eq_true, not_true_eq_false, kzl, kl3, knl, gx, gy, eq_self, a2, q2]
    exact hQ _ _ _ f1
  · have b1 : I 35 1 = nI 1 := a1
    have b2 : I 35 2 = nI w := a2
    have b3 : I 35 3 = nI c := a3
    have qw := km1 (n := w) (by omega)
    rcases hS 0 (by decide) with ⟨d1, d2⟩ | ⟨w2, c2, hw2, hc2, d1, d2, d3, d4, d5, d6⟩
    · have g1 : I 29 1 = nI 0 := d1
      refine b_X10_paste_0_c3_c0 ?_
      simp (disch := omega) only [pk_mul, nI_add, ksub, kdv, kd8, kd64, kd2, kd3, km8, km64, kt8, ke8, ke64, kcl, kin, kle, klt, keq, up_s, up_n, up_u, true_and, and_true, false_implies, true_implies, not_false_eq_true, not_true_eq_false, b1, g1, n10, n00]
      refine b_X11_paste_73 ?_
      simp (disch := omega) only [pk_mul, nI_add, ksub, kdv, kd8, kd64, kd2, kd3, km8, km64, kt8, ke8, ke64, kcl, kin, kle, klt, keq, up_s, up_n, up_u, true_and, and_true, false_implies, true_implies, not_false_eq_true, not_true_eq_false, kzl, kl3, knl, gx, gy, eq_self, a4, qw, d2, q2]
      exact hQ _ _ _ f1
    · have g1 : I 29 1 = nI 1 := d1
      have g2 : I 29 2 = nI w2 := d2
      have g3 : I 29 3 = nI c2 := d3
      have qw2 := km1 (n := w2) (by omega)
      by_cases hww : w = w2
      · have qe := eq_true hww
        by_cases z2 : v2 < nI 0
        · skip
          refine b_X10_paste_0_c3_c0 ?_
          simp (disch := omega) only [pk_mul, nI_add, ksub, kdv, kd8, kd64, kd2, kd3, km8, km64, kt8, ke8, ke64, kcl, kin, kle, klt, keq, up_s, up_n, up_u, true_and, and_true, false_implies, true_implies, not_false_eq_true, not_true_eq_false, b1, b2, b3, n10, g1, g2, g3, qe, z2]
          repeat' (first | refine And.intro (fun _ => ?_) (fun _ => ?_) | (refine b_X11_paste_73 ?_; simp (disch := omega) only [pk_mul, nI_add, ksub, kdv, kd8, kd64, kd2, kd3, km8, km64, kt8, ke8, ke64, kcl, kin, kle, klt, keq, up_s, up_n, up_u, true_and, and_true, false_implies, true_implies, not_false_eq_true, not_true_eq_false, kzl, kl3, knl, gx, gy, eq_self, a4, a5, qw, d4, d5, qw2, qe, z2]; repeat' (first | exact hQ _ _ _ f1 | refine And.intro (fun _ => ?_) (fun _ => ?_))))
        by_cases z4 : v4 < nI 0
        · skip
          refine b_X10_paste_0_c3_c0 ?_
          simp (disch := omega) only [pk_mul, nI_add, ksub, kdv, kd8, kd64, kd2, kd3, km8, km64, kt8, ke8, ke64, kcl, kin, kle, klt, keq, up_s, up_n, up_u, true_and, and_true, false_implies, true_implies, not_false_eq_true, not_true_eq_false, b1, b2, b3, n10, g1, g2, g3, qe, z2, z4]
          repeat' (first | refine And.intro (fun _ => ?_) (fun _ => ?_) | (refine b_X11_paste_73 ?_; simp (disch := omega) only [pk_mul, nI_add, ksub, kdv, kd8, kd64, kd2, kd3, km8, km64, kt8, ke8, ke64, kcl, kin, kle, klt, keq, up_s, up_n, up_u, true_and, and_true, false_implies, true_implies, not_false_eq_true, not_true_eq_false, kzl, kl3, knl, gx, gy, eq_self, a4, a5, qw, d4, d5, qw2, qe, z2, z4]; repeat' (first | exact hQ _ _ _ f1 | refine And.intro (fun _ => ?_) (fun _ => ?_))))
        by_cases z5 : v5 < nI 0
        · skip
          refine b_X10_paste_0_c3_c0 ?_
          simp (disch := omega) only [pk_mul, nI_add, ksub, kdv, kd8, kd64, kd2, kd3, km8, km64, kt8, ke8, ke64, kcl, kin, kle, klt, keq, up_s, up_n, up_u, true_and, and_true, false_implies, true_implies, not_false_eq_true, not_true_eq_false, b1, b2, b3, n10, g1, g2, g3, qe, z2, z4, z5]
          repeat' (first | refine And.intro (fun _ => ?_) (fun _ => ?_) | (refine b_X11_paste_73 ?_; simp (disch := omega) only [pk_mul, nI_add, ksub, kdv, kd8, kd64, kd2, kd3, km8, km64, kt8, ke8, ke64, kcl, kin, kle, klt, keq, up_s, up_n, up_u, true_and, and_true, false_implies, true_implies, not_false_eq_true, not_true_eq_false, kzl, kl3, knl, gx, gy, eq_self, a4, a5, qw, d4, d5, qw2, qe, z2, z4, z5]; repeat' (first | exact hQ _ _ _ f1 | refine And.intro (fun _ => ?_) (fun _ => ?_))))
        obtain ⟨a, ha, rfl⟩ := nI_of z2
        obtain ⟨b, hb, rfl⟩ := nI_of z4
        obtain ⟨n, hn, rfl⟩ := nI_of z5
        by_cases h1 : c < n
        · have k1 := eq_true h1
          have k2 : (c < a + n) = True := eq_true (by omega)
          refine b_X10_paste_0_c3_c0 ?_
          simp (disch := omega) only [pk_mul, nI_add, ksub, kdv, kd8, kd64, kd2, kd3, km8, km64, kt8, ke8, ke64, kcl, kin, kle, klt, keq, up_s, up_n, up_u, true_and, and_true, false_implies, true_implies, not_false_eq_true, not_true_eq_false, b1, b2, b3, n10, g1, g2, g3, qe, knl, k1]
          repeat' (first | refine And.intro (fun _ => ?_) (fun _ => ?_) | (refine b_X11_paste_73 ?_; simp (disch := omega) only [pk_mul, nI_add, ksub, kdv, kd8, kd64, kd2, kd3, km8, km64, kt8, ke8, ke64, kcl, kin, kle, klt, keq, up_s, up_n, up_u, true_and, and_true, false_implies, true_implies, not_false_eq_true, not_true_eq_false, kzl, kl3, knl, gx, gy, eq_self, a4, a5, qw, d4, d5, qw2, qe, kadd, k2]; repeat' (first | exact hQ _ _ _ f1 | refine And.intro (fun _ => ?_) (fun _ => ?_))))
        have k1 := eq_false h1
        by_cases h2 : c - n < a
        · have k3 := eq_true h2
          have k2 : (c < a + n) = True := eq_true (by omega)
          refine b_X10_paste_0_c3_c0 ?_
          simp (disch := omega) only [pk_mul, nI_add, ksub, kdv, kd8, kd64, kd2, kd3, km8, km64, kt8, ke8, ke64, kcl, kin, kle, klt, keq, up_s, up_n, up_u, true_and, and_true, false_implies, true_implies, not_false_eq_true, not_true_eq_false, b1, b2, b3, n10, g1, g2, g3, qe, knl, k1, k3]
          repeat' (first | refine And.intro (fun _ => ?_) (fun _ => ?_) | (refine b_X11_paste_73 ?_; simp (disch := omega) only [pk_mul, nI_add, ksub, kdv, kd8, kd64, kd2, kd3, km8, km64, kt8, ke8, ke64, kcl, kin, kle, klt, keq, up_s, up_n, up_u, true_and, and_true, false_implies, true_implies, not_false_eq_true, not_true_eq_false, kzl, kl3, knl, gx, gy, eq_self, a4, a5, qw, d4, d5, qw2, qe, kadd, k2]; repeat' (first | exact hQ _ _ _ f1 | refine And.intro (fun _ => ?_) (fun _ => ?_))))
        have k3 := eq_false h2
        have k2 : (c < a + n) = False := eq_false (by omega)
        by_cases h3 : c2 < n
        · have k4 := eq_true h3
          have k5 : (c2 < b + n) = True := eq_true (by omega)
          refine b_X10_paste_0_c3_c0 ?_
          simp (disch := omega) only [pk_mul, nI_add, ksub, kdv, kd8, kd64, kd2, kd3, km8, km64, kt8, ke8, ke64, kcl, kin, kle, klt, keq, up_s, up_n, up_u, true_and, and_true, false_implies, true_implies, not_false_eq_true, not_true_eq_false, b1, b2, b3, n10, g1, g2, g3, qe, knl, k1, k3, k4]
          repeat' (first | refine And.intro (fun _ => ?_) (fun _ => ?_) | (refine b_X11_paste_73 ?_; simp (disch := omega) only [pk_mul, nI_add, ksub, kdv, kd8, kd64, kd2, kd3, km8, km64, kt8, ke8, ke64, kcl, kin, kle, klt, keq, up_s, up_n, up_u, true_and, and_true, false_implies, true_implies, not_false_eq_true, not_true_eq_false, kzl, kl3, knl, gx, gy, eq_self, a4, a5, qw, d4, d5, qw2, qe, kadd, k2, k5]; repeat' (first | exact hQ _ _ _ f1 | refine And.intro (fun _ => ?_) (fun _ => ?_))))
        have k4 := eq_false h3
        by_cases h4 : c2 - n < b
        · have k6 := eq_true h4
          have k5 : (c2 < b + n) = True := eq_true (by omega)
          refine b_X10_paste_0_c3_c0 ?_
          simp (disch := omega) only [pk_mul, nI_add, ksub, kdv, kd8, kd64, kd2, kd3, km8, km64, kt8, ke8, ke64, kcl, kin, kle, klt, keq, up_s, up_n, up_u, true_and, and_true, false_implies, true_implies, not_false_eq_true, not_true_eq_false, b1, b2, b3, n10, g1, g2, g3, qe, knl, k1, k3, k4, k6]
          repeat' (first | refine And.intro (fun _ => ?_) (fun _ => ?_) | (refine b_X11_paste_73 ?_; simp (disch := omega) only [pk_mul, nI_add, ksub, kdv, kd8, kd64, kd2, kd3, km8, km64, kt8, ke8, ke64, kcl, kin, kle, klt, keq, up_s, up_n, up_u, true_and, and_true, false_implies, true_implies, not_false_eq_true, not_true_eq_false, kzl, kl3, knl, gx, gy, eq_self, a4, a5, qw, d4, d5, qw2, qe, kadd, k2, k5]; repeat' (first | exact hQ _ _ _ f1 | refine And.intro (fun _ => ?_) (fun _ => ?_))))
        have k6 := eq_false h4
        have k5 : (c2 < b + n) = False := eq_false (by omega)
        have z1 : (a + n ≤ 60) = True := eq_true (by omega)
        have z3 : (b + n ≤ 60) = True := eq_true (by omega)
        have nz : ∀ k : Nat, k < 2147483648 → (nI k < 0) = False := fun k hk => by
          have h9 : (nI k < nI 0) = (k < 0) := klt (by omega) (by omega)
          rw [knl] at h9
          exact h9
        refine b_X10_paste_0_c3_c0 ?_
        simp (disch := omega) only [pk_mul, nI_add, ksub, kdv, kd8, kd64, kd2, kd3, km8, km64, kt8, ke8, ke64, kcl, kin, kle, klt, keq, up_s, up_n, up_u, true_and, and_true, false_implies, true_implies, not_false_eq_true, not_true_eq_false, b1, b2, b3, n10, g1, g2, g3, qe, knl, k1, k3, k4, k6, z1, z3, nz]
        refine b_X11_paste_73 ?_
        simp (disch := omega) only [pk_mul, nI_add, ksub, kdv, kd8, kd64, kd2, kd3, km8, km64, kt8, ke8, ke64, kcl, kin, kle, klt, keq, up_s, up_n, up_u, true_and, and_true, false_implies, true_implies, not_false_eq_true, not_true_eq_false, kzl, kl3, knl, gx, gy, eq_self, a4, a5, qw, d4, d5, qw2, qe, kadd, k2, k5]
        refine m_paste (by decide) (by decide) (by omega) (by omega) (fun M m1 m2 m3 => hQ _ _ _ (Rel_L f1 (SL_p (x := 3) (y := 0) (a := a) (b := b) (n := n) (c := c) hS1 (by decide) a6 (by omega) (by omega) ?_ (fun s hs hne => ?_) (fun k hk => ?_) (fun k hk => ?_))))
        · rw [m1 _ (by decide) (by decide)]
          rfl
        · rw [m1 _ (by omega) (by omega), up_n (by omega)]
        · rw [m2 k hk]
          rfl
        · rw [m3 k hk]
          rfl
      · have qe := eq_false hww
        refine b_X10_paste_0_c3_c0 ?_
        simp (disch := omega) only [pk_mul, nI_add, ksub, kdv, kd8, kd64, kd2, kd3, km8, km64, kt8, ke8, ke64, kcl, kin, kle, klt, keq, up_s, up_n, up_u, true_and, and_true, false_implies, true_implies, not_false_eq_true, not_true_eq_false, b1, b2, b3, n10, g1, g2, g3, qe]
        refine b_X11_paste_73 ?_
        simp (disch := omega) only [pk_mul, nI_add, ksub, kdv, kd8, kd64, kd2, kd3, km8, km64, kt8, ke8, ke64, kcl, kin, kle, klt, keq, up_s, up_n, up_u, true_and, and_true, false_implies, true_implies, not_false_eq_true, not_true_eq_false, kzl, kl3, knl, gx, gy, eq_self, a4, a5, qw, d4, d5, qw2, qe]
        exact hQ _ _ _ f1
theorem w_paste_3_1 {B : tw → Nat × Nat × (Nat → Nat)} {e : am_V} {I : Nat → Nat → Int32} {L : Nat → Nat → Int64} {t : tw} {m : Nat} {v2 v4 v5 : Int32} {Q : Int32 → Int32 → (Nat → Nat → Int32) → (Nat → Nat → Int64) → Prop} (hR : Rel B e t I L m) (hQ : ∀ r J M, Rel B e t J M m → Q r r J M) : C_X10_paste_0 e (nI 3) v2 (nI 1) v4 v5 I L (fun r J M => C_X11_paste_73 e (nI 3) v2 (nI 1) v4 v5 J M (fun r' K N => Q r r' K N)) := by
  have f1 : Rel B e t (va_up I 73 (va_up (I 73) 0 (nI 0))) L m := Rel_q hR (fr_73 (fr_refl _ _ _) rfl) (frL_r L) (Nat.le_refl _)
  have hS := hR.2.2.2.2.1
  have hS1 := f1.2.2.2.2.1
  have gx : (3 ≤ 3) = True := eq_true (by decide)
  have gy : (1 ≤ 3) = True := eq_true (by decide)
  have q2 : ((-1 : Int32) = (-1 : Int32)) = True := eq_true rfl
  have n00 : ((0 : Nat) = 0) = True := eq_true rfl
  rcases hS 3 (by decide) with ⟨a1, a2⟩ | ⟨w, c, hw, hc, a1, a2, a3, a4, a5, a6⟩
  · have b1 : I 35 1 = nI 0 := a1
    refine b_X10_paste_0_c3_c1 ?_
    simp (disch := omega) only [pk_mul, nI_add, ksub, kdv, kd8, kd64, kd2, kd3, km8, km64, kt8, ke8, ke64, kcl, kin, kle, klt, keq, up_s, up_n, up_u, true_and, and_true, false_implies, true_implies, not_false_eq_true, not_true_eq_false, b1, n00]
    refine b_X11_paste_73 ?_
    simp (disch := omega) only [pk_mul, nI_add, ksub, kdv, kd8, kd64, kd2, kd3, km8, km64, kt8, ke8, ke64, kcl, kin, kle, klt, keq, up_s, up_n, up_u, true_and, and_true, false_implies, true_implies, not_false_eq_true, not_true_eq_false, kzl, kl3, knl, gx, gy, eq_self, a2, q2]
    exact hQ _ _ _ f1
  · have b1 : I 35 1 = nI 1 := a1
    have b2 : I 35 2 = nI w := a2
    have b3 : I 35 3 = nI c := a3
    have qw := km1 (n := w) (by omega)
    rcases hS 1 (by decide) with ⟨d1, d2⟩ | ⟨w2, c2, hw2, hc2, d1, d2, d3, d4, d5, d6⟩
    · have g1 : I 31 1 = nI 0 := d1
      refine b_X10_paste_0_c3_c1 ?_
      simp (disch := omega) only [pk_mul, nI_add, ksub, kdv, kd8, kd64, kd2, kd3, km8, km64, kt8, ke8, ke64, kcl, kin, kle, klt, keq, up_s, up_n, up_u, true_and, and_true, false_implies, true_implies, not_false_eq_true, not_true_eq_false, b1, g1, n10, n00]
      refine b_X11_paste_73 ?_
      simp (disch := omega) only [pk_mul, nI_add, ksub, kdv, kd8, kd64, kd2, kd3, km8, km64, kt8, ke8, ke64, kcl, kin, kle, klt, keq, up_s, up_n, up_u, true_and, and_true, false_implies, true_implies, not_false_eq_true, not_true_eq_false, kzl, kl3, knl, gx, gy, eq_self, a4, qw, d2, q2]
      exact hQ _ _ _ f1
    · have g1 : I 31 1 = nI 1 := d1
      have g2 : I 31 2 = nI w2 := d2
      have g3 : I 31 3 = nI c2 := d3
      have qw2 := km1 (n := w2) (by omega)
      by_cases hww : w = w2
      · have qe := eq_true hww
        by_cases z2 : v2 < nI 0
        · skip
          refine b_X10_paste_0_c3_c1 ?_
          simp (disch := omega) only [pk_mul, nI_add, ksub, kdv, kd8, kd64, kd2, kd3, km8, km64, kt8, ke8, ke64, kcl, kin, kle, klt, keq, up_s, up_n, up_u, true_and, and_true, false_implies, true_implies, not_false_eq_true, not_true_eq_false, b1, b2, b3, n10, g1, g2, g3, qe, z2]
          repeat' (first | refine And.intro (fun _ => ?_) (fun _ => ?_) | (refine b_X11_paste_73 ?_; simp (disch := omega) only [pk_mul, nI_add, ksub, kdv, kd8, kd64, kd2, kd3, km8, km64, kt8, ke8, ke64, kcl, kin, kle, klt, keq, up_s, up_n, up_u, true_and, and_true, false_implies, true_implies, not_false_eq_true, not_true_eq_false, kzl, kl3, knl, gx, gy, eq_self, a4, a5, qw, d4, d5, qw2, qe, z2]; repeat' (first | exact hQ _ _ _ f1 | refine And.intro (fun _ => ?_) (fun _ => ?_))))
        by_cases z4 : v4 < nI 0
        · skip
          refine b_X10_paste_0_c3_c1 ?_
          simp (disch := omega) only [pk_mul, nI_add, ksub, kdv, kd8, kd64, kd2, kd3, km8, km64, kt8, ke8, ke64, kcl, kin, kle, klt, keq, up_s, up_n, up_u, true_and, and_true, false_implies, true_implies, not_false_eq_true, not_true_eq_false, b1, b2, b3, n10, g1, g2, g3, qe, z2, z4]
          repeat' (first | refine And.intro (fun _ => ?_) (fun _ => ?_) | (refine b_X11_paste_73 ?_; simp (disch := omega) only [pk_mul, nI_add, ksub, kdv, kd8, kd64, kd2, kd3, km8, km64, kt8, ke8, ke64, kcl, kin, kle, klt, keq, up_s, up_n, up_u, true_and, and_true, false_implies, true_implies, not_false_eq_true, not_true_eq_false, kzl, kl3, knl, gx, gy, eq_self, a4, a5, qw, d4, d5, qw2, qe, z2, z4]; repeat' (first | exact hQ _ _ _ f1 | refine And.intro (fun _ => ?_) (fun _ => ?_))))
        by_cases z5 : v5 < nI 0
        · skip
          refine b_X10_paste_0_c3_c1 ?_
          simp (disch := omega) only [pk_mul, nI_add, ksub, kdv, kd8, kd64, kd2, kd3, km8, km64, kt8, ke8, ke64, kcl, kin, kle, klt, keq, up_s, up_n, up_u, true_and, and_true, false_implies, true_implies, not_false_eq_true, not_true_eq_false, b1, b2, b3, n10, g1, g2, g3, qe, z2, z4, z5]
          repeat' (first | refine And.intro (fun _ => ?_) (fun _ => ?_) | (refine b_X11_paste_73 ?_; simp (disch := omega) only [pk_mul, nI_add, ksub, kdv, kd8, kd64, kd2, kd3, km8, km64, kt8, ke8, ke64, kcl, kin, kle, klt, keq, up_s, up_n, up_u, true_and, and_true, false_implies, true_implies, not_false_eq_true, not_true_eq_false, kzl, kl3, knl, gx, gy, eq_self, a4, a5, qw, d4, d5, qw2, qe, z2, z4, z5]; repeat' (first | exact hQ _ _ _ f1 | refine And.intro (fun _ => ?_) (fun _ => ?_))))
        obtain ⟨a, ha, rfl⟩ := nI_of z2
        obtain ⟨b, hb, rfl⟩ := nI_of z4
        obtain ⟨n, hn, rfl⟩ := nI_of z5
        by_cases h1 : c < n
        · have k1 := eq_true h1
          have k2 : (c < a + n) = True := eq_true (by omega)
          refine b_X10_paste_0_c3_c1 ?_
          simp (disch := omega) only [pk_mul, nI_add, ksub, kdv, kd8, kd64, kd2, kd3, km8, km64, kt8, ke8, ke64, kcl, kin, kle, klt, keq, up_s, up_n, up_u, true_and, and_true, false_implies, true_implies, not_false_eq_true, not_true_eq_false, b1, b2, b3, n10, g1, g2, g3, qe, knl, k1]
          repeat' (first | refine And.intro (fun _ => ?_) (fun _ => ?_) | (refine b_X11_paste_73 ?_; simp (disch := omega) only [pk_mul, nI_add, ksub, kdv, kd8, kd64, kd2, kd3, km8, km64, kt8, ke8, ke64, kcl, kin, kle, klt, keq, up_s, up_n, up_u, true_and, and_true, false_implies, true_implies, not_false_eq_true, not_true_eq_false, kzl, kl3, knl, gx, gy, eq_self, a4, a5, qw, d4, d5, qw2, qe, kadd, k2]; repeat' (first | exact hQ _ _ _ f1 | refine And.intro (fun _ => ?_) (fun _ => ?_))))
        have k1 := eq_false h1
        by_cases h2 : c - n < a
        · have k3 := eq_true h2
          have k2 : (c < a + n) = True := eq_true (by omega)
          refine b_X10_paste_0_c3_c1 ?_
          simp (disch := omega) only [pk_mul, nI_add, ksub, kdv, kd8, kd64, kd2, kd3, km8, km64, kt8, ke8, ke64, kcl, kin, kle, klt, keq, up_s, up_n, up_u, true_and, and_true, false_implies, true_implies, not_false_eq_true, not_true_eq_false, b1, b2, b3, n10, g1, g2, g3, qe, knl, k1, k3]
          repeat' (first | refine And.intro (fun _ => ?_) (fun _ => ?_) | (refine b_X11_paste_73 ?_; simp (disch := omega) only [pk_mul, nI_add, ksub, kdv, kd8, kd64, kd2, kd3, km8, km64, kt8, ke8, ke64, kcl, kin, kle, klt, keq, up_s, up_n, up_u, true_and, and_true, false_implies, true_implies, not_false_eq_true, not_true_eq_false, kzl, kl3, knl, gx, gy, eq_self, a4, a5, qw, d4, d5, qw2, qe, kadd, k2]; repeat' (first | exact hQ _ _ _ f1 | refine And.intro (fun _ => ?_) (fun _ => ?_))))
        have k3 := eq_false h2
        have k2 : (c < a + n) = False := eq_false (by omega)
        by_cases h3 : c2 < n
        · have k4 := eq_true h3
          have k5 : (c2 < b + n) = True := eq_true (by omega)
          refine b_X10_paste_0_c3_c1 ?_
          simp (disch := omega) only [pk_mul, nI_add, ksub, kdv, kd8, kd64, kd2, kd3, km8, km64, kt8, ke8, ke64, kcl, kin, kle, klt, keq, up_s, up_n, up_u, true_and, and_true, false_implies, true_implies, not_false_eq_true, not_true_eq_false, b1, b2, b3, n10, g1, g2, g3, qe, knl, k1, k3, k4]
          repeat' (first | refine And.intro (fun _ => ?_) (fun _ => ?_) | (refine b_X11_paste_73 ?_; simp (disch := omega) only [pk_mul, nI_add, ksub, kdv, kd8, kd64, kd2, kd3, km8, km64, kt8, ke8, ke64, kcl, kin, kle, klt, keq, up_s, up_n, up_u, true_and, and_true, false_implies, true_implies, not_false_eq_true, not_true_eq_false, kzl, kl3, knl, gx, gy, eq_self, a4, a5, qw, d4, d5, qw2, qe, kadd, k2, k5]; repeat' (first | exact hQ _ _ _ f1 | refine And.intro (fun _ => ?_) (fun _ => ?_))))
        have k4 := eq_false h3
        by_cases h4 : c2 - n < b
        · have k6 := eq_true h4
          have k5 : (c2 < b + n) = True := eq_true (by omega)
          refine b_X10_paste_0_c3_c1 ?_
          simp (disch := omega) only [pk_mul, nI_add, ksub, kdv, kd8, kd64, kd2, kd3, km8, km64, kt8, ke8, ke64, kcl, kin, kle, klt, keq, up_s, up_n, up_u, true_and, and_true, false_implies, true_implies, not_false_eq_true, not_true_eq_false, b1, b2, b3, n10, g1, g2, g3, qe, knl, k1, k3, k4, k6]
          repeat' (first | refine And.intro (fun _ => ?_) (fun _ => ?_) | (refine b_X11_paste_73 ?_; simp (disch := omega) only [pk_mul, nI_add, ksub, kdv, kd8, kd64, kd2, kd3, km8, km64, kt8, ke8, ke64, kcl, kin, kle, klt, keq, up_s, up_n, up_u, true_and, and_true, false_implies, true_implies, not_false_eq_true, not_true_eq_false, kzl, kl3, knl, gx, gy, eq_self, a4, a5, qw, d4, d5, qw2, qe, kadd, k2, k5]; repeat' (first | exact hQ _ _ _ f1 | refine And.intro (fun _ => ?_) (fun _ => ?_))))
        have k6 := eq_false h4
        have k5 : (c2 < b + n) = False := eq_false (by omega)
        have z1 : (a + n ≤ 60) = True := eq_true (by omega)
        have z3 : (b + n ≤ 60) = True := eq_true (by omega)
        have nz : ∀ k : Nat, k < 2147483648 → (nI k < 0) = False := fun k hk => by
          have h9 : (nI k < nI 0) = (k < 0) := klt (by omega) (by omega)
          rw [knl] at h9
          exact h9
        refine b_X10_paste_0_c3_c1 ?_
        simp (disch := omega) only [pk_mul, nI_add, ksub, kdv, kd8, kd64, kd2, kd3, km8, km64, kt8, ke8, ke64, kcl, kin, kle, klt, keq, up_s, up_n, up_u, true_and, and_true, false_implies, true_implies, not_false_eq_true, not_true_eq_false, b1, b2, b3, n10, g1, g2, g3, qe, knl, k1, k3, k4, k6, z1, z3, nz]
        refine b_X11_paste_73 ?_
        simp (disch := omega) only [pk_mul, nI_add, ksub, kdv, kd8, kd64, kd2, kd3, km8, km64, kt8, ke8, ke64, kcl, kin, kle, klt, keq, up_s, up_n, up_u, true_and, and_true, false_implies, true_implies, not_false_eq_true, not_true_eq_false, kzl, kl3, knl, gx, gy, eq_self, a4, a5, qw, d4, d5, qw2, qe, kadd, k2, k5]
        refine m_paste (by decide) (by decide) (by omega) (by omega) (fun M m1 m2 m3 => hQ _ _ _ (Rel_L f1 (SL_p (x := 3) (y := 1) (a := a) (b := b) (n := n) (c := c) hS1 (by decide) a6 (by omega) (by omega) ?_ (fun s hs hne => ?_) (fun k hk => ?_) (fun k hk => ?_))))
        · rw [m1 _ (by decide) (by decide)]
          rfl
        · rw [m1 _ (by omega) (by omega), up_n (by omega)]
        · rw [m2 k hk]
          rfl
        · rw [m3 k hk]
          rfl
      · have qe := eq_false hww
        refine b_X10_paste_0_c3_c1 ?_
        simp (disch := omega) only [pk_mul, nI_add, ksub, kdv, kd8, kd64, kd2, kd3, km8, km64, kt8, ke8, ke64, kcl, kin, kle, klt, keq, up_s, up_n, up_u, true_and, and_true, false_implies, true_implies, not_false_eq_true, not_true_eq_false, b1, b2, b3, n10, g1, g2, g3, qe]
        refine b_X11_paste_73 ?_
        simp (disch := omega) only [pk_mul, nI_add, ksub, kdv, kd8, kd64, kd2, kd3, km8, km64, kt8, ke8, ke64, kcl, kin, kle, klt, keq, up_s, up_n, up_u, true_and, and_true, false_implies, true_implies, not_false_eq_true, not_true_eq_false, kzl, kl3, knl, gx, gy, eq_self, a4, a5, qw, d4, d5, qw2, qe]
        exact hQ _ _ _ f1
theorem w_paste_3_2 {B : tw → Nat × Nat × (Nat → Nat)} {e : am_V} {I : Nat → Nat → Int32} {L : Nat → Nat → Int64} {t : tw} {m : Nat} {v2 v4 v5 : Int32} {Q : Int32 → Int32 → (Nat → Nat → Int32) → (Nat → Nat → Int64) → Prop} (hR : Rel B e t I L m) (hQ : ∀ r J M, Rel B e t J M m → Q r r J M) : C_X10_paste_0 e (nI 3) v2 (nI 2) v4 v5 I L (fun r J M => C_X11_paste_73 e (nI 3) v2 (nI 2) v4 v5 J M (fun r' K N => Q r r' K N)) := by
  have f1 : Rel B e t (va_up I 73 (va_up (I 73) 0 (nI 0))) L m := Rel_q hR (fr_73 (fr_refl _ _ _) rfl) (frL_r L) (Nat.le_refl _)
  have hS := hR.2.2.2.2.1
  have hS1 := f1.2.2.2.2.1
  have gx : (3 ≤ 3) = True := eq_true (by decide)
  have gy : (2 ≤ 3) = True := eq_true (by decide)
  have q2 : ((-1 : Int32) = (-1 : Int32)) = True := eq_true rfl
  have n00 : ((0 : Nat) = 0) = True := eq_true rfl
  rcases hS 3 (by decide) with ⟨a1, a2⟩ | ⟨w, c, hw, hc, a1, a2, a3, a4, a5, a6⟩
  · have b1 : I 35 1 = nI 0 := a1
    refine b_X10_paste_0_c3_c2 ?_
    simp (disch := omega) only [pk_mul, nI_add, ksub, kdv, kd8, kd64, kd2, kd3, km8, km64, kt8, ke8, ke64, kcl, kin, kle, klt, keq, up_s, up_n, up_u, true_and, and_true, false_implies, true_implies, not_false_eq_true, not_true_eq_false, b1, n00]
    refine b_X11_paste_73 ?_
    simp (disch := omega) only [pk_mul, nI_add, ksub, kdv, kd8, kd64, kd2, kd3, km8, km64, kt8, ke8, ke64, kcl, kin, kle, klt, keq, up_s, up_n, up_u, true_and, and_true, false_implies, true_implies, not_false_eq_true, not_true_eq_false, kzl, kl3, knl, gx, gy, eq_self, a2, q2]
    exact hQ _ _ _ f1
  · have b1 : I 35 1 = nI 1 := a1
    have b2 : I 35 2 = nI w := a2
    have b3 : I 35 3 = nI c := a3
    have qw := km1 (n := w) (by omega)
    rcases hS 2 (by decide) with ⟨d1, d2⟩ | ⟨w2, c2, hw2, hc2, d1, d2, d3, d4, d5, d6⟩
    · have g1 : I 33 1 = nI 0 := d1
      refine b_X10_paste_0_c3_c2 ?_
      simp (disch := omega) only [pk_mul, nI_add, ksub, kdv, kd8, kd64, kd2, kd3, km8, km64, kt8, ke8, ke64, kcl, kin, kle, klt, keq, up_s, up_n, up_u, true_and, and_true, false_implies, true_implies, not_false_eq_true, not_true_eq_false, b1, g1, n10, n00]
      refine b_X11_paste_73 ?_
      simp (disch := omega) only [pk_mul, nI_add, ksub, kdv, kd8, kd64, kd2, kd3, km8, km64, kt8, ke8, ke64, kcl, kin, kle, klt, keq, up_s, up_n, up_u, true_and, and_true, false_implies, true_implies, not_false_eq_true, not_true_eq_false, kzl, kl3, knl, gx, gy, eq_self, a4, qw, d2, q2]
      exact hQ _ _ _ f1
    · have g1 : I 33 1 = nI 1 := d1
      have g2 : I 33 2 = nI w2 := d2
      have g3 : I 33 3 = nI c2 := d3
      have qw2 := km1 (n := w2) (by omega)
      by_cases hww : w = w2
      · have qe := eq_true hww
        by_cases z2 : v2 < nI 0
        · skip
          refine b_X10_paste_0_c3_c2 ?_
          simp (disch := omega) only [pk_mul, nI_add, ksub, kdv, kd8, kd64, kd2, kd3, km8, km64, kt8, ke8, ke64, kcl, kin, kle, klt, keq, up_s, up_n, up_u, true_and, and_true, false_implies, true_implies, not_false_eq_true, not_true_eq_false, b1, b2, b3, n10, g1, g2, g3, qe, z2]
          repeat' (first | refine And.intro (fun _ => ?_) (fun _ => ?_) | (refine b_X11_paste_73 ?_; simp (disch := omega) only [pk_mul, nI_add, ksub, kdv, kd8, kd64, kd2, kd3, km8, km64, kt8, ke8, ke64, kcl, kin, kle, klt, keq, up_s, up_n, up_u, true_and, and_true, false_implies, true_implies, not_false_eq_true, not_true_eq_false, kzl, kl3, knl, gx, gy, eq_self, a4, a5, qw, d4, d5, qw2, qe, z2]; repeat' (first | exact hQ _ _ _ f1 | refine And.intro (fun _ => ?_) (fun _ => ?_))))
        by_cases z4 : v4 < nI 0
        · skip
          refine b_X10_paste_0_c3_c2 ?_
          simp (disch := omega) only [pk_mul, nI_add, ksub, kdv, kd8, kd64, kd2, kd3, km8, km64, kt8, ke8, ke64, kcl, kin, kle, klt, keq, up_s, up_n, up_u, true_and, and_true, false_implies, true_implies, not_false_eq_true, not_true_eq_false, b1, b2, b3, n10, g1, g2, g3, qe, z2, z4]
          repeat' (first | refine And.intro (fun _ => ?_) (fun _ => ?_) | (refine b_X11_paste_73 ?_; simp (disch := omega) only [pk_mul, nI_add, ksub, kdv, kd8, kd64, kd2, kd3, km8, km64, kt8, ke8, ke64, kcl, kin, kle, klt, keq, up_s, up_n, up_u, true_and, and_true, false_implies, true_implies, not_false_eq_true, not_true_eq_false, kzl, kl3, knl, gx, gy, eq_self, a4, a5, qw, d4, d5, qw2, qe, z2, z4]; repeat' (first | exact hQ _ _ _ f1 | refine And.intro (fun _ => ?_) (fun _ => ?_))))
        by_cases z5 : v5 < nI 0
        · skip
          refine b_X10_paste_0_c3_c2 ?_
          simp (disch := omega) only [pk_mul, nI_add, ksub, kdv, kd8, kd64, kd2, kd3, km8, km64, kt8, ke8, ke64, kcl, kin, kle, klt, keq, up_s, up_n, up_u, true_and, and_true, false_implies, true_implies, not_false_eq_true, not_true_eq_false, b1, b2, b3, n10, g1, g2, g3, qe, z2, z4, z5]
          repeat' (first | refine And.intro (fun _ => ?_) (fun _ => ?_) | (refine b_X11_paste_73 ?_; simp (disch := omega) only [pk_mul, nI_add, ksub, kdv, kd8, kd64, kd2, kd3, km8, km64, kt8, ke8, ke64, kcl, kin, kle, klt, keq, up_s, up_n, up_u, true_and, and_true, false_implies, true_implies, not_false_eq_true, not_true_eq_false, kzl, kl3, knl, gx, gy, eq_self, a4, a5, qw, d4, d5, qw2, qe, z2, z4, z5]; repeat' (first | exact hQ _ _ _ f1 | refine And.intro (fun _ => ?_) (fun _ => ?_))))
        obtain ⟨a, ha, rfl⟩ := nI_of z2
        obtain ⟨b, hb, rfl⟩ := nI_of z4
        obtain ⟨n, hn, rfl⟩ := nI_of z5
        by_cases h1 : c < n
        · have k1 := eq_true h1
          have k2 : (c < a + n) = True := eq_true (by omega)
          refine b_X10_paste_0_c3_c2 ?_
          simp (disch := omega) only [pk_mul, nI_add, ksub, kdv, kd8, kd64, kd2, kd3, km8, km64, kt8, ke8, ke64, kcl, kin, kle, klt, keq, up_s, up_n, up_u, true_and, and_true, false_implies, true_implies, not_false_eq_true, not_true_eq_false, b1, b2, b3, n10, g1, g2, g3, qe, knl, k1]
          repeat' (first | refine And.intro (fun _ => ?_) (fun _ => ?_) | (refine b_X11_paste_73 ?_; simp (disch := omega) only [pk_mul, nI_add, ksub, kdv, kd8, kd64, kd2, kd3, km8, km64, kt8, ke8, ke64, kcl, kin, kle, klt, keq, up_s, up_n, up_u, true_and, and_true, false_implies, true_implies, not_false_eq_true, not_true_eq_false, kzl, kl3, knl, gx, gy, eq_self, a4, a5, qw, d4, d5, qw2, qe, kadd, k2]; repeat' (first | exact hQ _ _ _ f1 | refine And.intro (fun _ => ?_) (fun _ => ?_))))
        have k1 := eq_false h1
        by_cases h2 : c - n < a
        · have k3 := eq_true h2
          have k2 : (c < a + n) = True := eq_true (by omega)
          refine b_X10_paste_0_c3_c2 ?_
          simp (disch := omega) only [pk_mul, nI_add, ksub, kdv, kd8, kd64, kd2, kd3, km8, km64, kt8, ke8, ke64, kcl, kin, kle, klt, keq, up_s, up_n, up_u, true_and, and_true, false_implies, true_implies, not_false_eq_true, not_true_eq_false, b1, b2, b3, n10, g1, g2, g3, qe, knl, k1, k3]
          repeat' (first | refine And.intro (fun _ => ?_) (fun _ => ?_) | (refine b_X11_paste_73 ?_; simp (disch := omega) only [pk_mul, nI_add, ksub, kdv, kd8, kd64, kd2, kd3, km8, km64, kt8, ke8, ke64, kcl, kin, kle, klt, keq, up_s, up_n, up_u, true_and, and_true, false_implies, true_implies, not_false_eq_true, not_true_eq_false, kzl, kl3, knl, gx, gy, eq_self, a4, a5, qw, d4, d5, qw2, qe, kadd, k2]; repeat' (first | exact hQ _ _ _ f1 | refine And.intro (fun _ => ?_) (fun _ => ?_))))
        have k3 := eq_false h2
        have k2 : (c < a + n) = False := eq_false (by omega)
        by_cases h3 : c2 < n
        · have k4 := eq_true h3
          have k5 : (c2 < b + n) = True := eq_true (by omega)
          refine b_X10_paste_0_c3_c2 ?_
          simp (disch := omega) only [pk_mul, nI_add, ksub, kdv, kd8, kd64, kd2, kd3, km8, km64, kt8, ke8, ke64, kcl, kin, kle, klt, keq, up_s, up_n, up_u, true_and, and_true, false_implies, true_implies, not_false_eq_true, not_true_eq_false, b1, b2, b3, n10, g1, g2, g3, qe, knl, k1, k3, k4]
          repeat' (first | refine And.intro (fun _ => ?_) (fun _ => ?_) | (refine b_X11_paste_73 ?_; simp (disch := omega) only [pk_mul, nI_add, ksub, kdv, kd8, kd64, kd2, kd3, km8, km64, kt8, ke8, ke64, kcl, kin, kle, klt, keq, up_s, up_n, up_u, true_and, and_true, false_implies, true_implies, not_false_eq_true, not_true_eq_false, kzl, kl3, knl, gx, gy, eq_self, a4, a5, qw, d4, d5, qw2, qe, kadd, k2, k5]; repeat' (first | exact hQ _ _ _ f1 | refine And.intro (fun _ => ?_) (fun _ => ?_))))
        have k4 := eq_false h3
        by_cases h4 : c2 - n < b
        · have k6 := eq_true h4
          have k5 : (c2 < b + n) = True := eq_true (by omega)
          refine b_X10_paste_0_c3_c2 ?_
          simp (disch := omega) only [pk_mul, nI_add, ksub, kdv, kd8, kd64, kd2, kd3, km8, km64, kt8, ke8, ke64, kcl, kin, kle, klt, keq, up_s, up_n, up_u, true_and, and_true, false_implies, true_implies, not_false_eq_true, not_true_eq_false, b1, b2, b3, n10, g1, g2, g3, qe, knl, k1, k3, k4, k6]
          repeat' (first | refine And.intro (fun _ => ?_) (fun _ => ?_) | (refine b_X11_paste_73 ?_; simp (disch := omega) only [pk_mul, nI_add, ksub, kdv, kd8, kd64, kd2, kd3, km8, km64, kt8, ke8, ke64, kcl, kin, kle, klt, keq, up_s, up_n, up_u, true_and, and_true, false_implies, true_implies, not_false_eq_true, not_true_eq_false, kzl, kl3, knl, gx, gy, eq_self, a4, a5, qw, d4, d5, qw2, qe, kadd, k2, k5]; repeat' (first | exact hQ _ _ _ f1 | refine And.intro (fun _ => ?_) (fun _ => ?_))))
        have k6 := eq_false h4
        have k5 : (c2 < b + n) = False := eq_false (by omega)
        have z1 : (a + n ≤ 60) = True := eq_true (by omega)
        have z3 : (b + n ≤ 60) = True := eq_true (by omega)
        have nz : ∀ k : Nat, k < 2147483648 → (nI k < 0) = False := fun k hk => by
          have h9 : (nI k < nI 0) = (k < 0) := klt (by omega) (by omega)
          rw [knl] at h9
          exact h9
        refine b_X10_paste_0_c3_c2 ?_
        simp (disch := omega) only [pk_mul, nI_add, ksub, kdv, kd8, kd64, kd2, kd3, km8, km64, kt8, ke8, ke64, kcl, kin, kle, klt, keq, up_s, up_n, up_u, true_and, and_true, false_implies, true_implies, not_false_eq_true, not_true_eq_false, b1, b2, b3, n10, g1, g2, g3, qe, knl, k1, k3, k4, k6, z1, z3, nz]
        refine b_X11_paste_73 ?_
        simp (disch := omega) only [pk_mul, nI_add, ksub, kdv, kd8, kd64, kd2, kd3, km8, km64, kt8, ke8, ke64, kcl, kin, kle, klt, keq, up_s, up_n, up_u, true_and, and_true, false_implies, true_implies, not_false_eq_true, not_true_eq_false, kzl, kl3, knl, gx, gy, eq_self, a4, a5, qw, d4, d5, qw2, qe, kadd, k2, k5]
        refine m_paste (by decide) (by decide) (by omega) (by omega) (fun M m1 m2 m3 => hQ _ _ _ (Rel_L f1 (SL_p (x := 3) (y := 2) (a := a) (b := b) (n := n) (c := c) hS1 (by decide) a6 (by omega) (by omega) ?_ (fun s hs hne => ?_) (fun k hk => ?_) (fun k hk => ?_))))
        · rw [m1 _ (by decide) (by decide)]
          rfl
        · rw [m1 _ (by omega) (by omega), up_n (by omega)]
        · rw [m2 k hk]
          rfl
        · rw [m3 k hk]
          rfl
      · have qe := eq_false hww
        refine b_X10_paste_0_c3_c2 ?_
        simp (disch := omega) only [pk_mul, nI_add, ksub, kdv, kd8, kd64, kd2, kd3, km8, km64, kt8, ke8, ke64, kcl, kin, kle, klt, keq, up_s, up_n, up_u, true_and, and_true, false_implies, true_implies, not_false_eq_true, not_true_eq_false, b1, b2, b3, n10, g1, g2, g3, qe]
        refine b_X11_paste_73 ?_
        simp (disch := omega) only [pk_mul, nI_add, ksub, kdv, kd8, kd64, kd2, kd3, km8, km64, kt8, ke8, ke64, kcl, kin, kle, klt, keq, up_s, up_n, up_u, true_and, and_true, false_implies, true_implies, not_false_eq_true, not_true_eq_false, kzl, kl3, knl, gx, gy, eq_self, a4, a5, qw, d4, d5, qw2, qe]
        exact hQ _ _ _ f1
theorem w_paste_3_3 {B : tw → Nat × Nat × (Nat → Nat)} {e : am_V} {I : Nat → Nat → Int32} {L : Nat → Nat → Int64} {t : tw} {m : Nat} {v2 v4 v5 : Int32} {Q : Int32 → Int32 → (Nat → Nat → Int32) → (Nat → Nat → Int64) → Prop} (hR : Rel B e t I L m) (hQ : ∀ r J M, Rel B e t J M m → Q r r J M) : C_X10_paste_0 e (nI 3) v2 (nI 3) v4 v5 I L (fun r J M => C_X11_paste_73 e (nI 3) v2 (nI 3) v4 v5 J M (fun r' K N => Q r r' K N)) := by
  have f1 : Rel B e t (va_up I 73 (va_up (I 73) 0 (nI 0))) L m := Rel_q hR (fr_73 (fr_refl _ _ _) rfl) (frL_r L) (Nat.le_refl _)
  have hS := hR.2.2.2.2.1
  have hS1 := f1.2.2.2.2.1
  have gx : (3 ≤ 3) = True := eq_true (by decide)
  have gy : (3 ≤ 3) = True := eq_true (by decide)
  have q2 : ((-1 : Int32) = (-1 : Int32)) = True := eq_true rfl
  have n00 : ((0 : Nat) = 0) = True := eq_true rfl
  rcases hS 3 (by decide) with ⟨a1, a2⟩ | ⟨w, c, hw, hc, a1, a2, a3, a4, a5, a6⟩
  · have b1 : I 35 1 = nI 0 := a1
    refine b_X10_paste_0_c3_c3 ?_
    simp (disch := omega) only [pk_mul, nI_add, ksub, kdv, kd8, kd64, kd2, kd3, km8, km64, kt8, ke8, ke64, kcl, kin, kle, klt, keq, up_s, up_n, up_u, true_and, and_true, false_implies, true_implies, not_false_eq_true, not_true_eq_false, b1, n00]
    refine b_X11_paste_73 ?_
    simp (disch := omega) only [pk_mul, nI_add, ksub, kdv, kd8, kd64, kd2, kd3, km8, km64, kt8, ke8, ke64, kcl, kin, kle, klt, keq, up_s, up_n, up_u, true_and, and_true, false_implies, true_implies, not_false_eq_true, not_true_eq_false, kzl, kl3, knl, gx, gy, eq_self, a2, q2]
    exact hQ _ _ _ f1
  · have b1 : I 35 1 = nI 1 := a1
    have b2 : I 35 2 = nI w := a2
    have b3 : I 35 3 = nI c := a3
    have qw := km1 (n := w) (by omega)
    by_cases z2 : v2 < nI 0
    · skip
      refine b_X10_paste_0_c3_c3 ?_
      simp (disch := omega) only [pk_mul, nI_add, ksub, kdv, kd8, kd64, kd2, kd3, km8, km64, kt8, ke8, ke64, kcl, kin, kle, klt, keq, up_s, up_n, up_u, true_and, and_true, false_implies, true_implies, not_false_eq_true, not_true_eq_false, b1, b2, b3, n10, eq_self, z2]
      repeat' (first | refine And.intro (fun _ => ?_) (fun _ => ?_) | (refine b_X11_paste_73 ?_; simp (disch := omega) only [pk_mul, nI_add, ksub, kdv, kd8, kd64, kd2, kd3, km8, km64, kt8, ke8, ke64, kcl, kin, kle, klt, keq, up_s, up_n, up_u, true_and, and_true, false_implies, true_implies, not_false_eq_true, not_true_eq_false, kzl, kl3, knl, gx, gy, eq_self, a4, a5, qw, z2]; repeat' (first | exact hQ _ _ _ f1 | refine And.intro (fun _ => ?_) (fun _ => ?_))))
    by_cases z4 : v4 < nI 0
    · skip
      refine b_X10_paste_0_c3_c3 ?_
      simp (disch := omega) only [pk_mul, nI_add, ksub, kdv, kd8, kd64, kd2, kd3, km8, km64, kt8, ke8, ke64, kcl, kin, kle, klt, keq, up_s, up_n, up_u, true_and, and_true, false_implies, true_implies, not_false_eq_true, not_true_eq_false, b1, b2, b3, n10, eq_self, z2, z4]
      repeat' (first | refine And.intro (fun _ => ?_) (fun _ => ?_) | (refine b_X11_paste_73 ?_; simp (disch := omega) only [pk_mul, nI_add, ksub, kdv, kd8, kd64, kd2, kd3, km8, km64, kt8, ke8, ke64, kcl, kin, kle, klt, keq, up_s, up_n, up_u, true_and, and_true, false_implies, true_implies, not_false_eq_true, not_true_eq_false, kzl, kl3, knl, gx, gy, eq_self, a4, a5, qw, z2, z4]; repeat' (first | exact hQ _ _ _ f1 | refine And.intro (fun _ => ?_) (fun _ => ?_))))
    by_cases z5 : v5 < nI 0
    · skip
      refine b_X10_paste_0_c3_c3 ?_
      simp (disch := omega) only [pk_mul, nI_add, ksub, kdv, kd8, kd64, kd2, kd3, km8, km64, kt8, ke8, ke64, kcl, kin, kle, klt, keq, up_s, up_n, up_u, true_and, and_true, false_implies, true_implies, not_false_eq_true, not_true_eq_false, b1, b2, b3, n10, eq_self, z2, z4, z5]
      repeat' (first | refine And.intro (fun _ => ?_) (fun _ => ?_) | (refine b_X11_paste_73 ?_; simp (disch := omega) only [pk_mul, nI_add, ksub, kdv, kd8, kd64, kd2, kd3, km8, km64, kt8, ke8, ke64, kcl, kin, kle, klt, keq, up_s, up_n, up_u, true_and, and_true, false_implies, true_implies, not_false_eq_true, not_true_eq_false, kzl, kl3, knl, gx, gy, eq_self, a4, a5, qw, z2, z4, z5]; repeat' (first | exact hQ _ _ _ f1 | refine And.intro (fun _ => ?_) (fun _ => ?_))))
    obtain ⟨a, ha, rfl⟩ := nI_of z2
    obtain ⟨b, hb, rfl⟩ := nI_of z4
    obtain ⟨n, hn, rfl⟩ := nI_of z5
    by_cases h1 : c < n
    · have k1 := eq_true h1
      have k2 : (c < a + n) = True := eq_true (by omega)
      refine b_X10_paste_0_c3_c3 ?_
      simp (disch := omega) only [pk_mul, nI_add, ksub, kdv, kd8, kd64, kd2, kd3, km8, km64, kt8, ke8, ke64, kcl, kin, kle, klt, keq, up_s, up_n, up_u, true_and, and_true, false_implies, true_implies, not_false_eq_true, not_true_eq_false, b1, b2, b3, n10, eq_self, knl, k1]
      repeat' (first | refine And.intro (fun _ => ?_) (fun _ => ?_) | (refine b_X11_paste_73 ?_; simp (disch := omega) only [pk_mul, nI_add, ksub, kdv, kd8, kd64, kd2, kd3, km8, km64, kt8, ke8, ke64, kcl, kin, kle, klt, keq, up_s, up_n, up_u, true_and, and_true, false_implies, true_implies, not_false_eq_true, not_true_eq_false, kzl, kl3, knl, gx, gy, eq_self, a4, a5, qw, kadd, k2]; repeat' (first | exact hQ _ _ _ f1 | refine And.intro (fun _ => ?_) (fun _ => ?_))))
    have k1 := eq_false h1
    by_cases h2 : c - n < a
    · have k3 := eq_true h2
      have k2 : (c < a + n) = True := eq_true (by omega)
      refine b_X10_paste_0_c3_c3 ?_
      simp (disch := omega) only [pk_mul, nI_add, ksub, kdv, kd8, kd64, kd2, kd3, km8, km64, kt8, ke8, ke64, kcl, kin, kle, klt, keq, up_s, up_n, up_u, true_and, and_true, false_implies, true_implies, not_false_eq_true, not_true_eq_false, b1, b2, b3, n10, eq_self, knl, k1, k3]
      repeat' (first | refine And.intro (fun _ => ?_) (fun _ => ?_) | (refine b_X11_paste_73 ?_; simp (disch := omega) only [pk_mul, nI_add, ksub, kdv, kd8, kd64, kd2, kd3, km8, km64, kt8, ke8, ke64, kcl, kin, kle, klt, keq, up_s, up_n, up_u, true_and, and_true, false_implies, true_implies, not_false_eq_true, not_true_eq_false, kzl, kl3, knl, gx, gy, eq_self, a4, a5, qw, kadd, k2]; repeat' (first | exact hQ _ _ _ f1 | refine And.intro (fun _ => ?_) (fun _ => ?_))))
    have k3 := eq_false h2
    have k2 : (c < a + n) = False := eq_false (by omega)
    have k4 := k1
    by_cases h4 : c - n < b
    · have k6 := eq_true h4
      have k5 : (c < b + n) = True := eq_true (by omega)
      refine b_X10_paste_0_c3_c3 ?_
      simp (disch := omega) only [pk_mul, nI_add, ksub, kdv, kd8, kd64, kd2, kd3, km8, km64, kt8, ke8, ke64, kcl, kin, kle, klt, keq, up_s, up_n, up_u, true_and, and_true, false_implies, true_implies, not_false_eq_true, not_true_eq_false, b1, b2, b3, n10, eq_self, knl, k1, k3, k4, k6]
      repeat' (first | refine And.intro (fun _ => ?_) (fun _ => ?_) | (refine b_X11_paste_73 ?_; simp (disch := omega) only [pk_mul, nI_add, ksub, kdv, kd8, kd64, kd2, kd3, km8, km64, kt8, ke8, ke64, kcl, kin, kle, klt, keq, up_s, up_n, up_u, true_and, and_true, false_implies, true_implies, not_false_eq_true, not_true_eq_false, kzl, kl3, knl, gx, gy, eq_self, a4, a5, qw, kadd, k2, k5]; repeat' (first | exact hQ _ _ _ f1 | refine And.intro (fun _ => ?_) (fun _ => ?_))))
    have k6 := eq_false h4
    have k5 : (c < b + n) = False := eq_false (by omega)
    have z1 : (a + n ≤ 60) = True := eq_true (by omega)
    have z3 : (b + n ≤ 60) = True := eq_true (by omega)
    have nz : ∀ k : Nat, k < 2147483648 → (nI k < 0) = False := fun k hk => by
      have h9 : (nI k < nI 0) = (k < 0) := klt (by omega) (by omega)
      rw [knl] at h9
      exact h9
    refine b_X10_paste_0_c3_c3 ?_
    simp (disch := omega) only [pk_mul, nI_add, ksub, kdv, kd8, kd64, kd2, kd3, km8, km64, kt8, ke8, ke64, kcl, kin, kle, klt, keq, up_s, up_n, up_u, true_and, and_true, false_implies, true_implies, not_false_eq_true, not_true_eq_false, b1, b2, b3, n10, eq_self, knl, k1, k3, k4, k6, z1, z3, nz]
    refine b_X11_paste_73 ?_
    simp (disch := omega) only [pk_mul, nI_add, ksub, kdv, kd8, kd64, kd2, kd3, km8, km64, kt8, ke8, ke64, kcl, kin, kle, klt, keq, up_s, up_n, up_u, true_and, and_true, false_implies, true_implies, not_false_eq_true, not_true_eq_false, kzl, kl3, knl, gx, gy, eq_self, a4, a5, qw, kadd, k2, k5]
    refine m_paste (by decide) (by decide) (by omega) (by omega) (fun M m1 m2 m3 => hQ _ _ _ (Rel_L f1 (SL_p (x := 3) (y := 3) (a := a) (b := b) (n := n) (c := c) hS1 (by decide) a6 (by omega) (by omega) ?_ (fun s hs hne => ?_) (fun k hk => ?_) (fun k hk => ?_))))
    · rw [m1 _ (by decide) (by decide)]
      rfl
    · rw [m1 _ (by omega) (by omega), up_n (by omega)]
    · rw [m2 k hk]
      rfl
    · rw [m3 k hk]
      rfl
theorem r_paste {B : tw → Nat × Nat × (Nat → Nat)} {e : am_V} {I : Nat → Nat → Int32} {L : Nat → Nat → Int64} {t : tw} {m : Nat} {v1 v2 v3 v4 v5 : Int32} {Q : Int32 → Int32 → (Nat → Nat → Int32) → (Nat → Nat → Int64) → Prop} (hR : Rel B e t I L m) (hQ : ∀ r J M, Rel B e t J M m → Q r r J M) : C_X10_paste_0 e v1 v2 v3 v4 v5 I L (fun r J M => C_X11_paste_73 e v1 v2 v3 v4 v5 J M (fun r' K N => Q r r' K N)) := by
  have f1 : Rel B e t (va_up I 73 (va_up (I 73) 0 (nI 0))) L m := Rel_q hR (fr_73 (fr_refl _ _ _) rfl) (frL_r L) (Nat.le_refl _)
  have big : ∀ v : Int32, ¬ v ≤ nI 3 → nI 4 ≤ v ∧ ¬ v < nI 4 := fun v dx => by
    rw [Int32.lt_iff_toInt_lt]
    rw [Int32.le_iff_toInt_le] at dx ⊢
    have h5 : (nI 3).toInt = 3 := rfl
    have h6 : (nI 4).toInt = 4 := rfl
    omega
  rcases crl v1 3 (by decide) with ax | ⟨ax, dx⟩ | ⟨x, hx, rfl⟩
  · (refine b_X10_paste_0 ?_; simp (disch := omega) only [pk_mul, nI_add, ksub, kdv, kd8, kd64, kd2, kd3, km8, km64, kt8, ke8, ke64, kcl, kin, kle, klt, keq, up_s, up_n, up_u, true_and, and_true, false_implies, true_implies, not_false_eq_true, not_true_eq_false, ax]; refine b_X11_paste_73 ?_; simp (disch := omega) only [pk_mul, nI_add, ksub, kdv, kd8, kd64, kd2, kd3, km8, km64, kt8, ke8, ke64, kcl, kin, kle, klt, keq, up_s, up_n, up_u, true_and, and_true, false_implies, true_implies, not_false_eq_true, not_true_eq_false, kzl, ax]; exact hQ _ _ _ f1)
  · have d4 := (big v1 dx).1
    (refine b_X10_paste_0 ?_; simp (disch := omega) only [pk_mul, nI_add, ksub, kdv, kd8, kd64, kd2, kd3, km8, km64, kt8, ke8, ke64, kcl, kin, kle, klt, keq, up_s, up_n, up_u, true_and, and_true, false_implies, true_implies, not_false_eq_true, not_true_eq_false, ax, d4]; refine b_X11_paste_73 ?_; simp (disch := omega) only [pk_mul, nI_add, ksub, kdv, kd8, kd64, kd2, kd3, km8, km64, kt8, ke8, ke64, kcl, kin, kle, klt, keq, up_s, up_n, up_u, true_and, and_true, false_implies, true_implies, not_false_eq_true, not_true_eq_false, kzl, kl3, ax, dx]; exact hQ _ _ _ f1)
  · have g1 : (4 ≤ x) = False := eq_false (by omega)
    have g2 : (x ≤ 3) = True := eq_true hx
    rcases crl v3 3 (by decide) with ay | ⟨ay, dy⟩ | ⟨y, hy, rfl⟩
    · (refine b_X10_paste_0 ?_; simp (disch := omega) only [pk_mul, nI_add, ksub, kdv, kd8, kd64, kd2, kd3, km8, km64, kt8, ke8, ke64, kcl, kin, kle, klt, keq, up_s, up_n, up_u, true_and, and_true, false_implies, true_implies, not_false_eq_true, not_true_eq_false, ay, knl, g1]; refine b_X11_paste_73 ?_; simp (disch := omega) only [pk_mul, nI_add, ksub, kdv, kd8, kd64, kd2, kd3, km8, km64, kt8, ke8, ke64, kcl, kin, kle, klt, keq, up_s, up_n, up_u, true_and, and_true, false_implies, true_implies, not_false_eq_true, not_true_eq_false, kzl, kl3, knl, g2, ay]; exact hQ _ _ _ f1)
    · have d4 := (big v3 dy).2
      (refine b_X10_paste_0 ?_; simp (disch := omega) only [pk_mul, nI_add, ksub, kdv, kd8, kd64, kd2, kd3, km8, km64, kt8, ke8, ke64, kcl, kin, kle, klt, keq, up_s, up_n, up_u, true_and, and_true, false_implies, true_implies, not_false_eq_true, not_true_eq_false, ay, knl, g1, d4]; refine b_X11_paste_73 ?_; simp (disch := omega) only [pk_mul, nI_add, ksub, kdv, kd8, kd64, kd2, kd3, km8, km64, kt8, ke8, ke64, kcl, kin, kle, klt, keq, up_s, up_n, up_u, true_and, and_true, false_implies, true_implies, not_false_eq_true, not_true_eq_false, kzl, kl3, knl, g2, ay, dy]; exact hQ _ _ _ f1)
    · have hx4 : x = 0 ∨ x = 1 ∨ x = 2 ∨ x = 3 := by omega
      have hy4 : y = 0 ∨ y = 1 ∨ y = 2 ∨ y = 3 := by omega
      rcases hx4 with rfl | rfl | rfl | rfl <;> rcases hy4 with rfl | rfl | rfl | rfl
      · exact w_paste_0_0 hR hQ
      · exact w_paste_0_1 hR hQ
      · exact w_paste_0_2 hR hQ
      · exact w_paste_0_3 hR hQ
      · exact w_paste_1_0 hR hQ
      · exact w_paste_1_1 hR hQ
      · exact w_paste_1_2 hR hQ
      · exact w_paste_1_3 hR hQ
      · exact w_paste_2_0 hR hQ
      · exact w_paste_2_1 hR hQ
      · exact w_paste_2_2 hR hQ
      · exact w_paste_2_3 hR hQ
      · exact w_paste_3_0 hR hQ
      · exact w_paste_3_1 hR hQ
      · exact w_paste_3_2 hR hQ
      · exact w_paste_3_3 hR hQ
