/-! drawn, strays -/
def InvC (t : tw) (s : Nat × Nat × Nat × (Nat → Nat) × Nat) (I : Nat → Nat → Int32) (L : Nat → Nat → Int64) : Prop := I 70 3 = nI s.2.2.1 ∧ I 70 4 = nI s.2.2.2.2 ∧ L 70 2 = lN s.1 ∧ ∀ k, k < 512 → tB t k = true → I 71 k = nI (s.2.2.2.1 k)
theorem c_strayp {e : am_V} {t : tw} {n : Nat} {Q : (Nat → Nat → Int32) → (Nat → Nat → Int64) → Prop} (hk : tok t) (hn : n ≤ 20) : ∀ (r i : Nat) (s : Nat × Nat × Nat × (Nat → Nat) × Nat) (v5 : Int32) (I : Nat → Nat → Int32) (L : Nat → Nat → Int64), v5 = pv s.2.1 → i + r = n → CT t I → sOK t s → InvC t s I L → (∀ J M, InvC t (strw t r s) J M → sOK t (strw t r s) → fr [70, 71, 72] [] I J → (∀ a, a ≠ 70 → M a = L a) → Q J M) → T_X5_stray_70_3_p33 e (nI n) v5 (nI i) I L Q := by
  intro r
  induction r with
  | zero =>
    intro i s v5 I L h5 hi hC hs hI hQ
    have q1 : (n ≤ i) = True := eq_true (by omega)
    refine b_X5_stray_70_3_p33 ?_
    simp (disch := omega) only [pk_mul, nI_add, ksub, kdv, kd8, kd64, kd2, kd3, km8, km64, kt8, ke8, ke64, kcl, kin, kle, klt, keq, up_s, up_n, up_u, true_and, and_true, false_implies, true_implies, not_false_eq_true, not_true_eq_false, q1]
    exact hQ I L hI hs (fr_refl _ _ _) (fun _ _ => rfl)
  | succ r ih =>
    intro i s v5 I L h5 hi hC hs hI hQ
    have hs2 := hs
    obtain ⟨s1, s2, s3, s4, s5⟩ := hs
    obtain ⟨j1, j2, j3, j4⟩ := hI
    have hk2 := hk
    obtain ⟨o0, oT, oZ, oY, oD, o9, oN, o28, oB, oX, oE, oF, oA, oH, oU, oV⟩ := hk
    have q1 : (n ≤ i) = False := eq_false (by omega)
    refine b_X5_stray_70_3_p33 ?_
    simp (disch := omega) only [pk_mul, nI_add, ksub, kdv, kd8, kd64, kd2, kd3, km8, km64, kt8, ke8, ke64, kcl, kin, kle, klt, keq, up_s, up_n, up_u, true_and, and_true, false_implies, true_implies, not_false_eq_true, not_true_eq_false, q1]
    rw [h5]
    refine c_choose hC hk2 s3 s2 j1 j4 s4 j3 s1 (fun h0 F => ?_) (fun h0 F => ?_)
    · have e1 : strw t (r + 1) s = s := if_pos h0
      rw [e1] at hQ
      refine ⟨fun _ => ?_, fun h => absurd rfl h⟩
      refine hQ _ _ ⟨?_, ?_, j3, fun k h1 h2 => ?_⟩ hs2 (fr_up (fr_refl _ _ _) rfl) (fun _ _ => rfl)
      · simp (disch := omega) only [pk_mul, nI_add, ksub, kdv, kd8, kd64, kd2, kd3, km8, km64, kt8, ke8, ke64, kcl, kin, kle, klt, keq, up_s, up_n, up_u, true_and, and_true, false_implies, true_implies, not_false_eq_true, not_true_eq_false, j1]
      · simp (disch := omega) only [pk_mul, nI_add, ksub, kdv, kd8, kd64, kd2, kd3, km8, km64, kt8, ke8, ke64, kcl, kin, kle, klt, keq, up_s, up_n, up_u, true_and, and_true, false_implies, true_implies, not_false_eq_true, not_true_eq_false, j2]
      · simp (disch := omega) only [pk_mul, nI_add, ksub, kdv, kd8, kd64, kd2, kd3, km8, km64, kt8, ke8, ke64, kcl, kin, kle, klt, keq, up_s, up_n, up_u, true_and, and_true, false_implies, true_implies, not_false_eq_true, not_true_eq_false]
        exact j4 k h1 h2
    · have e1 : strw t (r + 1) s = strw t r (stS t s (stY t s)) := if_neg h0
      have hs3 := sOK_s hk2 hs2 h0
      obtain ⟨y1, y2, y3⟩ := stY_s h0
      have ey : (opl t s.2.2.2.1 s.2.1 s.2.2.1).getD (lcg s.1 / 65536 % (opl t s.2.2.2.1 s.2.1 s.2.2.1).length) 0 = stY t s := rfl
      rw [ey]
      rw [e1] at hQ
      generalize stY t s = y at *
      obtain ⟨m, p, x, nw, c⟩ := s
      dsimp only at *
      have q2 := km1 (n := y) (by omega)
      rcases s3 with rfl | ⟨hp, hpx⟩
      · have q3 : (pv 8 = (-1 : Int32)) = True := eq_true rfl
        simp (disch := omega) only [pk_mul, nI_add, ksub, kdv, kd8, kd64, kd2, kd3, km8, km64, kt8, ke8, ke64, kcl, kin, kle, klt, keq, up_s, up_n, up_u, true_and, and_true, false_implies, true_implies, not_false_eq_true, not_true_eq_false, q2, q3, j1, j2]
        refine ih (i + 1) (stS t (m, 8, x, nw, c) y) _ _ _ (pvn (by omega)).symm (by omega) (CTb_c (b := 3) (fun a h7 h8 => ?_) hC) hs3 ⟨?_, ?_, ?_, fun k h1 h2 => ?_⟩ (fun J M k1 k2 k3 k4 => ?_)
        · simp (disch := omega) only [pk_mul, nI_add, ksub, kdv, kd8, kd64, kd2, kd3, km8, km64, kt8, ke8, ke64, kcl, kin, kle, klt, keq, up_s, up_n, up_u, true_and, and_true, false_implies, true_implies, not_false_eq_true, not_true_eq_false]
        · simp (disch := omega) only [pk_mul, nI_add, ksub, kdv, kd8, kd64, kd2, kd3, km8, km64, kt8, ke8, ke64, kcl, kin, kle, klt, keq, up_s, up_n, up_u, true_and, and_true, false_implies, true_implies, not_false_eq_true, not_true_eq_false]
          rfl
        · simp (disch := omega) only [pk_mul, nI_add, ksub, kdv, kd8, kd64, kd2, kd3, km8, km64, kt8, ke8, ke64, kcl, kin, kle, klt, keq, up_s, up_n, up_u, true_and, and_true, false_implies, true_implies, not_false_eq_true, not_true_eq_false]
          rfl
        · simp (disch := omega) only [pk_mul, nI_add, ksub, kdv, kd8, kd64, kd2, kd3, km8, km64, kt8, ke8, ke64, kcl, kin, kle, klt, keq, up_s, up_n, up_u, true_and, and_true, false_implies, true_implies, not_false_eq_true, not_true_eq_false]
          rfl
        · simp (disch := omega) only [pk_mul, nI_add, ksub, kdv, kd8, kd64, kd2, kd3, km8, km64, kt8, ke8, ke64, kcl, kin, kle, klt, keq, up_s, up_n, up_u, true_and, and_true, false_implies, true_implies, not_false_eq_true, not_true_eq_false]
          exact j4 k h1 h2
        · refine hQ J M k1 k2 (fr_trans (fr_up (fr_up (fr_refl _ _ _) rfl) rfl) k3) (fun a ha => ?_)
          rw [k4 a ha, up_n ha]
      · have q3 := km1 (n := p) (by omega)
        have hB := tB_x (t := t) hp (by omega : x < 8) y1 hpx y2
        have e71 := j4 _ (by omega) hB
        rw [pvn hp]
        have y4 : 0 < nw (64 * p + 8 * x + y) := by omega
        simp (disch := omega) only [pk_mul, nI_add, ksub, kdv, kd8, kd64, kd2, kd3, km8, km64, kt8, ke8, ke64, kcl, kin, kle, klt, keq, up_s, up_n, up_u, true_and, and_true, false_implies, true_implies, not_false_eq_true, not_true_eq_false, q2, q3, j1, j2, e71]
        refine ih (i + 1) (stS t (m, p, x, nw, c) y) _ _ _ (pvn (by omega)).symm (by omega) (CTb_c (b := 3) (fun a h7 h8 => ?_) hC) hs3 ⟨?_, ?_, ?_, fun k h1 h2 => ?_⟩ (fun J M k1 k2 k3 k4 => ?_)
        · simp (disch := omega) only [pk_mul, nI_add, ksub, kdv, kd8, kd64, kd2, kd3, km8, km64, kt8, ke8, ke64, kcl, kin, kle, klt, keq, up_s, up_n, up_u, true_and, and_true, false_implies, true_implies, not_false_eq_true, not_true_eq_false]
        · simp (disch := omega) only [pk_mul, nI_add, ksub, kdv, kd8, kd64, kd2, kd3, km8, km64, kt8, ke8, ke64, kcl, kin, kle, klt, keq, up_s, up_n, up_u, true_and, and_true, false_implies, true_implies, not_false_eq_true, not_true_eq_false]
          rfl
        · simp (disch := omega) only [pk_mul, nI_add, ksub, kdv, kd8, kd64, kd2, kd3, km8, km64, kt8, ke8, ke64, kcl, kin, kle, klt, keq, up_s, up_n, up_u, true_and, and_true, false_implies, true_implies, not_false_eq_true, not_true_eq_false]
          rfl
        · simp (disch := omega) only [pk_mul, nI_add, ksub, kdv, kd8, kd64, kd2, kd3, km8, km64, kt8, ke8, ke64, kcl, kin, kle, klt, keq, up_s, up_n, up_u, true_and, and_true, false_implies, true_implies, not_false_eq_true, not_true_eq_false]
          rfl
        · have e5 : (stS t (m, p, x, nw, c) y).2.2.2.1 = va_up nw (64 * p + 8 * x + y) (nw (64 * p + 8 * x + y) - 1) := if_neg (show ¬ p = 8 by omega)
          rw [e5]
          by_cases he : k = 64 * p + 8 * x + y
          · rw [he]
            simp (disch := omega) only [pk_mul, nI_add, ksub, kdv, kd8, kd64, kd2, kd3, km8, km64, kt8, ke8, ke64, kcl, kin, kle, klt, keq, up_s, up_n, up_u, true_and, and_true, false_implies, true_implies, not_false_eq_true, not_true_eq_false]
          · simp (disch := omega) only [pk_mul, nI_add, ksub, kdv, kd8, kd64, kd2, kd3, km8, km64, kt8, ke8, ke64, kcl, kin, kle, klt, keq, up_s, up_n, up_u, true_and, and_true, false_implies, true_implies, not_false_eq_true, not_true_eq_false]
            exact j4 k h1 h2
        · refine hQ J M k1 k2 (fr_trans (fr_up (fr_up (fr_up (fr_refl _ _ _) rfl) rfl) rfl) k3) (fun a ha => ?_)
          rw [k4 a ha, up_n ha]
theorem c_stray {e : am_V} {t : tw} {n m x : Nat} {I : Nat → Nat → Int32} {L : Nat → Nat → Int64} {Q : (Nat → Nat → Int32) → (Nat → Nat → Int64) → Prop} (hC : CT t I) (hk : tok t) (hn : n ≤ 20) (hm : m < 2147483648) (hx : x < t 0 0) (hQ : ∀ J M, InvC t (strw t n (m, 8, x, t 3, 0)) J M → sOK t (strw t n (m, 8, x, t 3, 0)) → fr [70, 71, 72] [] I J → (∀ a, a ≠ 70 → M a = L a) → Q J M) : C_X5_stray_70_3 e (nI m) (nI x) (nI n) I L Q := by
  have hC2 := hC
  have hk2 := hk
  obtain ⟨c0, c1, c2, c3, c4, c5, c6, c7, c8, cS, cD, cN, cA, cT, cM, cR, cF, cO, cH, cL⟩ := hC
  obtain ⟨o0, oT, oZ, oY, oD, o9, oN, o28, oB, oX, oE, oF, oA, oH, oU, oV⟩ := hk
  refine b_X5_stray_70_3 ?_
  refine c_strayp hk2 hn n 0 (m, 8, x, t 3, 0) _ _ _ rfl (by omega) (CTb_c (b := 3) (fun a h7 h8 => ?_) hC2) ⟨hm, hx, Or.inl rfl, fun k h => (oB k h).2, oX⟩ ⟨?_, ?_, ?_, fun k h1 h2 => ?_⟩ (fun J M k1 k2 k3 k4 => hQ J M k1 k2 (fr_trans (fr_up (fr_up (fr_up (fr_refl _ _ _) rfl) rfl) rfl) k3) (fun a ha => ?_))
  · simp (disch := omega) only [pk_mul, nI_add, ksub, kdv, kd8, kd64, kd2, kd3, km8, km64, kt8, ke8, ke64, kcl, kin, kle, klt, keq, up_s, up_n, up_u, true_and, and_true, false_implies, true_implies, not_false_eq_true, not_true_eq_false]
  · simp (disch := omega) only [pk_mul, nI_add, ksub, kdv, kd8, kd64, kd2, kd3, km8, km64, kt8, ke8, ke64, kcl, kin, kle, klt, keq, up_s, up_n, up_u, true_and, and_true, false_implies, true_implies, not_false_eq_true, not_true_eq_false]
  · simp (disch := omega) only [pk_mul, nI_add, ksub, kdv, kd8, kd64, kd2, kd3, km8, km64, kt8, ke8, ke64, kcl, kin, kle, klt, keq, up_s, up_n, up_u, true_and, and_true, false_implies, true_implies, not_false_eq_true, not_true_eq_false]
  · simp (disch := omega) only [pk_mul, nI_add, ksub, kdv, kd8, kd64, kd2, kd3, km8, km64, kt8, ke8, ke64, kcl, kin, kle, klt, keq, up_s, up_n, up_u, true_and, and_true, false_implies, true_implies, not_false_eq_true, not_true_eq_false, nI_64]
  · simp (disch := omega) only [pk_mul, nI_add, ksub, kdv, kd8, kd64, kd2, kd3, km8, km64, kt8, ke8, ke64, kcl, kin, kle, klt, keq, up_s, up_n, up_u, true_and, and_true, false_implies, true_implies, not_false_eq_true, not_true_eq_false]
    unfold va_cpy
    rw [if_pos (by omega)]
    simp only [Nat.zero_add, Nat.sub_zero]
    exact cR k h1 h2
  · rw [k4 a ha, up_n ha]
theorem sz1 : ∀ b, b < 256 → b ≠ 0 → nI b &&& (nI b - nI 1) = nI (b &&& (b - 1)) ∧ (b &&& (b - 1)) < b ∧ cn (fun y => Nat.testBit b y) 8 = cn (fun y => Nat.testBit (b &&& (b - 1)) y) 8 + 1 := by decide +kernel
theorem c_sizeOfp {e : am_V} {I : Nat → Nat → Int32} {L : Nat → Nat → Int64} {Q : Int32 → (Nat → Nat → Int32) → Prop} : ∀ b, b < 256 → ∀ c, Q (nI (c + cn (fun y => Nat.testBit b y) 8)) I → T_X11_sizeOf_p4 e (nI c) (nI b) I L Q := by
  intro b
  induction b using Nat.strongRecOn with
  | ind b ih =>
    intro hb c hQ
    refine b_X11_sizeOf_p4 ?_
    by_cases h0 : b = 0
    · have q1 := eq_true h0
      simp (disch := omega) only [pk_mul, nI_add, ksub, kdv, kd8, kd64, kd2, kd3, km8, km64, kt8, ke8, ke64, kcl, kin, kle, klt, keq, up_s, up_n, up_u, true_and, and_true, false_implies, true_implies, not_false_eq_true, not_true_eq_false, q1]
      rw [h0] at hQ
      exact hQ
    · have q1 := eq_false h0
      obtain ⟨h1, h2, h3⟩ := sz1 b hb h0
      rw [h1]
      simp (disch := omega) only [pk_mul, nI_add, ksub, kdv, kd8, kd64, kd2, kd3, km8, km64, kt8, ke8, ke64, kcl, kin, kle, klt, keq, up_s, up_n, up_u, true_and, and_true, false_implies, true_implies, not_false_eq_true, not_true_eq_false, q1]
      refine ih _ h2 (by omega) _ ?_
      rw [h3] at hQ
      rw [show c + 1 + cn (fun y => Nat.testBit (b &&& (b - 1)) y) 8 = c + (cn (fun y => Nat.testBit (b &&& (b - 1)) y) 8 + 1) from by omega]
      exact hQ
theorem c_sizeOf {e : am_V} {I : Nat → Nat → Int32} {L : Nat → Nat → Int64} {Q : Int32 → (Nat → Nat → Int32) → Prop} {p : Nat → Bool} (hQ : Q (nI (((List.range 8).filter p).length)) I) : C_X11_sizeOf e (nI (bts p 8)) I L Q := by
  refine b_X11_sizeOf (c_sizeOfp _ (bts_b p 8) 0 ?_)
  have h : cn (fun y => Nat.testBit (bts p 8) y) 8 = cn p 8 := cn_c (fun k hk => by rw [bts_t, decide_eq_true hk, Bool.true_and])
  rw [h, Nat.zero_add, ← cn_fl]
  exact hQ
theorem kbt : ∀ b, b < 256 → ∀ y, y < 8 → ((nI b >>> (nI y &&& 31)) &&& nI 1 = nI 1 ↔ Nat.testBit b y = true) := by decide +kernel
theorem c_lot {e : am_V} {I : Nat → Nat → Int32} {L : Nat → Nat → Int64} {Q : Int32 → (Nat → Nat → Int32) → Prop} {P : Nat → Bool} {ix : Nat} {v4 v7 v8 : Int32} {v5 : Int64} (hix : ix < ((List.range 8).filter P).length)
    (hz : ∀ z, z = ((List.range 8).filter P).getD ix 0 → ((v7 = (-1 : Int32) → T_X11_draws_73_p18 e v4 v5 v8 (nI z) (va_up I 73 (va_up (I 73) 45 ((I 73 45) + (nI 1)))) L Q) ∧ (¬ v7 = (-1 : Int32) → (vp_in ((((nI 64) * v7) + ((nI 8) * v8)) + nI z) 512 ∧ (vp_in ((((nI 64) * v7) + ((nI 8) * v8)) + nI z) 512 ∧ T_X11_draws_73_p18 e v4 v5 v8 (nI z) (va_up (va_up I 87 (va_up (I 87) ((((nI 64) * v7) + ((nI 8) * v8)) + nI z).toNatClampNeg ((I 87 ((((nI 64) * v7) + ((nI 8) * v8)) + nI z).toNatClampNeg) - (nI 1)))) 73 (va_up (I 73) 45 ((I 73 45) + (nI 1)))) L Q))))) : ∀ w y r, y + w = 8 → r + ((List.range y).filter P).length = ix → T_X11_draws_73_p138 e v4 v5 v7 v8 (nI (bts P 8)) (nI r) (nI y) I L Q := by
  intro w
  induction w with
  | zero =>
    intro y r hy hr
    have : y = 8 := by omega
    rw [this] at hr
    omega
  | succ w ih =>
    intro y r hy hr
    have hb := bts_b P 8
    have h1 := fl_len P y
    have h8 := fl_k P 8
    have hbt := kbt (bts P 8) hb y (by omega)
    rw [bts_t, decide_eq_true (by omega : y < 8), Bool.true_and] at hbt
    refine b_X11_draws_73_p138 ?_
    cases hp : P y with
    | true =>
      have q1 : ((nI (bts P 8) >>> (nI y &&& 31)) &&& nI 1 = nI 1) = True := eq_true (hbt.mpr hp)
      rw [hp, if_pos rfl] at h1
      by_cases h0 : 0 < r
      · have q2 := eq_true h0
        simp (disch := omega) only [pk_mul, nI_add, ksub, kdv, kd8, kd64, kd2, kd3, km8, km64, kt8, ke8, ke64, kcl, kin, kle, klt, keq, up_s, up_n, up_u, true_and, and_true, false_implies, true_implies, not_false_eq_true, not_true_eq_false, q1, q2]
        exact ih (y + 1) (r - 1) (by omega) (by omega)
      · have q2 := eq_false h0
        simp (disch := omega) only [q1, klt, q2, true_and, and_true, false_implies, true_implies, not_false_eq_true, not_true_eq_false]
        refine hz y ?_
        have h2 := fl_at 8 y (by omega) hp
        rw [show ((List.range y).filter P).length = ix from by omega] at h2
        rw [List.getD_eq_getElem?_getD, h2]
        rfl
    | false =>
      have q1 : ((nI (bts P 8) >>> (nI y &&& 31)) &&& nI 1 = nI 1) = False := eq_false (fun h => by rw [hbt.mp h] at hp; cases hp)
      rw [hp, if_neg (by decide)] at h1
      by_cases h0 : 0 < r
      · have q2 := eq_true h0
        simp (disch := omega) only [pk_mul, nI_add, ksub, kdv, kd8, kd64, kd2, kd3, km8, km64, kt8, ke8, ke64, kcl, kin, kle, klt, keq, up_s, up_n, up_u, true_and, and_true, false_implies, true_implies, not_false_eq_true, not_true_eq_false, q1, q2]
        exact ih (y + 1) (r - 0) (by omega) (by omega)
      · have q2 := eq_false h0
        simp (disch := omega) only [pk_mul, nI_add, ksub, kdv, kd8, kd64, kd2, kd3, km8, km64, kt8, ke8, ke64, kcl, kin, kle, klt, keq, up_s, up_n, up_u, true_and, and_true, false_implies, true_implies, not_false_eq_true, not_true_eq_false, q1, q2]
        exact ih (y + 1) (r - 0) (by omega) (by omega)
theorem m_draws {e : am_V} {L : Nat → Nat → Int64} {t : tw} {n : Nat} {Q : Int32 → (Nat → Nat → Int32) → Prop} (hk : tok t) (hn : n ≤ 20) : ∀ (r : Nat) (s : Nat × Nat × Nat × (Nat → Nat) × Nat) (v7 : Int32) (I : Nat → Nat → Int32), v7 = pv s.2.1 → s.2.2.2.2 + r = n → MT t I → sOK t s → I 73 45 = nI s.2.2.2.2 → (∀ k, k < 512 → I 87 k = nI (s.2.2.2.1 k)) → (∀ J, sOK t (strw t r s) → J 73 45 = nI (strw t r s).2.2.2.2 → (∀ k, k < 512 → J 87 k = nI ((strw t r s).2.2.2.1 k)) → fr [87] [45] I J → Q (nI (strw t r s).2.2.1) J) → T_X11_draws_73_p18 e (nI n) (lN s.1) v7 (nI s.2.2.1) I L Q := by
  intro r
  induction r with
  | zero =>
    intro s v7 I h7 hi hM hs h45 h87 hQ
    have q1 : (n ≤ s.2.2.2.2) = True := eq_true (by omega)
    refine b_X11_draws_73_p18 ?_
    simp (disch := omega) only [pk_mul, nI_add, ksub, kdv, kd8, kd64, kd2, kd3, km8, km64, kt8, ke8, ke64, kcl, kin, kle, klt, keq, up_s, up_n, up_u, true_and, and_true, false_implies, true_implies, not_false_eq_true, not_true_eq_false, h45, q1]
    exact hQ I hs h45 h87 (fr_refl _ _ _)
  | succ r ih =>
    intro s v7 I h7 hi hM hs h45 h87 hQ
    have hs2 := hs
    have hM2 := hM
    have hk2 := hk
    obtain ⟨s1, s2, s3, s4, s5⟩ := hs
    obtain ⟨m0, m1, m2, m3, m4, m5, mS, mU, mL, mF, mO, mH, mA, mK⟩ := hM
    obtain ⟨o0, oT, oZ, oY, oD, o9, oN, o28, oB, oX, oE, oF, oA, oH, oU, oV⟩ := hk
    have q1 : (n ≤ s.2.2.2.2) = False := eq_false (by omega)
    refine b_X11_draws_73_p18 ?_
    simp (disch := omega) only [pk_mul, nI_add, ksub, kdv, kd8, kd64, kd2, kd3, km8, km64, kt8, ke8, ke64, kcl, kin, kle, klt, keq, up_s, up_n, up_u, true_and, and_true, false_implies, true_implies, not_false_eq_true, not_true_eq_false, h45, q1]
    refine lp_ux (n := t 0 0) (N := 8) (S := Nat) (T := fun y b => T_X11_draws_73_p33 e (nI n) (lN s.1) v7 (nI s.2.2.1) (nI b) (nI y) I L Q) (fun y b => b = bts (opP t s.2.2.2.1 s.2.1 s.2.2.1) y) o0 ?_ ?_ ?_ 0 rfl
    · intro k b h1 h2 hb
      rw [bts_s, if_neg (fun ho => ?_), Nat.or_zero]
      · exact hb
      · have := oN s.2.2.1 (by omega) k h2 (opP_i.mp ho).1
        omega
    · intro k b h1 hb hnext
      have q2 : (t 0 0 ≤ k) = False := eq_false (by omega)
      have e1 := mS (8 * s.2.2.1 + k) (by omega)
      have u1 := o9 (8 * s.2.2.1 + k) (by omega)
      have sh := ksh k (by omega)
      have yes : opP t s.2.2.2.1 s.2.1 s.2.2.1 k = true → T_X11_draws_73_p33 e (nI n) (lN s.1) v7 (nI s.2.2.1) (nI (b ||| 2 ^ k)) (nI (k + 1)) I L Q := fun ho => hnext _ (by rw [bts_s, if_pos ho, hb])
      have no : ¬ opP t s.2.2.2.1 s.2.1 s.2.2.1 k = true → T_X11_draws_73_p33 e (nI n) (lN s.1) v7 (nI s.2.2.1) (nI (b ||| 0)) (nI (k + 1)) I L Q := fun ho => hnext _ (by rw [bts_s, if_neg ho, hb])
      refine b_X11_draws_73_p33 ?_
      by_cases h2 : t 1 (8 * s.2.2.1 + k) ≤ 0
      · have q3 := eq_true h2
        simp (disch := omega) only [pk_mul, nI_add, ksub, kdv, kd8, kd64, kd2, kd3, km8, km64, kt8, ke8, ke64, kcl, kin, kle, klt, keq, up_s, up_n, up_u, true_and, and_true, false_implies, true_implies, not_false_eq_true, not_true_eq_false, m1, q2, e1, q3, fa_or]
        exact no (fun ho => by have := (opP_i.mp ho).1; omega)
      · have q3 := eq_false h2
        rcases s3 with h8 | ⟨hp, hpx⟩
        · have q4 : (v7 = (-1 : Int32)) = True := eq_true (by rw [h7, h8]; rfl)
          simp (disch := omega) only [pk_mul, nI_add, ksub, kdv, kd8, kd64, kd2, kd3, km8, km64, kt8, ke8, ke64, kcl, kin, kle, klt, keq, up_s, up_n, up_u, true_and, and_true, false_implies, true_implies, not_false_eq_true, not_true_eq_false, m1, q2, e1, q3, q4, sh, fa_or]
          exact yes (opP_i.mpr ⟨by omega, Or.inl h8⟩)
        · rw [pvn hp] at h7
          rw [h7] at yes no ⊢
          have q4 := km1 (n := s.2.1) (by omega)
          have e2 := h87 (64 * s.2.1 + 8 * s.2.2.1 + k) (by omega)
          have b2 := s4 (64 * s.2.1 + 8 * s.2.2.1 + k) (by omega)
          by_cases h5 : s.2.2.2.1 (64 * s.2.1 + 8 * s.2.2.1 + k) ≤ 0
          · have q5 := eq_true h5
            simp (disch := omega) only [pk_mul, nI_add, ksub, kdv, kd8, kd64, kd2, kd3, km8, km64, kt8, ke8, ke64, kcl, kin, kle, klt, keq, up_s, up_n, up_u, true_and, and_true, false_implies, true_implies, not_false_eq_true, not_true_eq_false, m1, q2, e1, q3, q4, e2, q5, sh, fa_or]
            exact no (fun ho => by have := (opP_i.mp ho).2; omega)
          · have q5 := eq_false h5
            simp (disch := omega) only [pk_mul, nI_add, ksub, kdv, kd8, kd64, kd2, kd3, km8, km64, kt8, ke8, ke64, kcl, kin, kle, klt, keq, up_s, up_n, up_u, true_and, and_true, false_implies, true_implies, not_false_eq_true, not_true_eq_false, m1, q2, e1, q3, q4, e2, q5, sh, fa_or]
            exact yes (opP_i.mpr ⟨by omega, Or.inr (by omega)⟩)
    · intro b hb
      have q2 : (t 0 0 ≤ t 0 0) = True := eq_true (Nat.le_refl _)
      have hb2 := bts_b (opP t s.2.2.2.1 s.2.1 s.2.2.1) 8
      have l8 := opl_l t s.2.2.2.1 s.2.1 s.2.2.1
      have hl0 : bts (opP t s.2.2.2.1 s.2.1 s.2.2.1) 8 = 0 ↔ (opl t s.2.2.2.1 s.2.1 s.2.2.1).length = 0 := by
        have hc := cn_fl (opP t s.2.2.2.1 s.2.1 s.2.2.1) 8
        constructor
        · intro h
          show ((List.range 8).filter _).length = 0
          rw [hc]
          refine cn_z (fun k hk8 => ?_)
          have := bts_t (opP t s.2.2.2.1 s.2.1 s.2.2.1) 8 k
          rw [h, Nat.zero_testBit, decide_eq_true hk8, Bool.true_and] at this
          exact this.symm
        · intro h
          have h2 : (List.range 8).filter (opP t s.2.2.2.1 s.2.1 s.2.2.1) = [] := List.eq_nil_of_length_eq_zero h
          refine Nat.eq_of_testBit_eq (fun y => ?_)
          rw [bts_t, Nat.zero_testBit]
          cases ho : opP t s.2.2.2.1 s.2.1 s.2.2.1 y with
          | false => rw [Bool.and_false]
          | true =>
            by_cases hy : y < 8
            · have : y ∈ (List.range 8).filter (opP t s.2.2.2.1 s.2.1 s.2.2.1) := List.mem_filter.mpr ⟨List.mem_range.mpr hy, ho⟩
              rw [h2] at this
              cases this
            · rw [decide_eq_false hy, Bool.false_and]
      rw [hb]
      refine b_X11_draws_73_p33 ?_
      by_cases h0 : (opl t s.2.2.2.1 s.2.1 s.2.2.1).length = 0
      · have q3 : (bts (opP t s.2.2.2.1 s.2.1 s.2.2.1) 8 = 0) = True := eq_true (hl0.mpr h0)
        simp (disch := omega) only [pk_mul, nI_add, ksub, kdv, kd8, kd64, kd2, kd3, km8, km64, kt8, ke8, ke64, kcl, kin, kle, klt, keq, up_s, up_n, up_u, true_and, and_true, false_implies, true_implies, not_false_eq_true, not_true_eq_false, m1, q2, q3]
        have e1 : strw t (r + 1) s = s := if_pos h0
        rw [e1] at hQ
        exact hQ I hs2 h45 h87 (fr_refl _ _ _)
      · have q3 : (bts (opP t s.2.2.2.1 s.2.1 s.2.2.1) 8 = 0) = False := eq_false (fun h => h0 (hl0.mp h))
        have g1 := lcg1 s1
        have g3 := lcg_b s.1
        have q5 := nI_64 (n := (opl t s.2.2.2.1 s.2.1 s.2.2.1).length) (by omega)
        have q4 := lN_z (k := (opl t s.2.2.2.1 s.2.1 s.2.2.1).length) (by omega) (by omega)
        have g2 := lcg2 (m := lcg s.1) (k := (opl t s.2.2.2.1 s.2.1 s.2.2.1).length) (by omega) (by omega)
        simp (disch := omega) only [pk_mul, nI_add, ksub, kdv, kd8, kd64, kd2, kd3, km8, km64, kt8, ke8, ke64, kcl, kin, kle, klt, keq, up_s, up_n, up_u, true_and, and_true, false_implies, true_implies, not_false_eq_true, not_true_eq_false, m1, q2, q3, g1]
        refine c_sizeOf ?_
        show ¬ (nI (opl t s.2.2.2.1 s.2.1 s.2.2.1).length).toInt64 = (0 : Int64) ∧ _
        have ef : (List.range 8).filter (opP t s.2.2.2.1 s.2.1 s.2.2.1) = opl t s.2.2.2.1 s.2.1 s.2.2.1 := rfl
        rw [ef, q5, g2, q4]
        have e1 : strw t (r + 1) s = strw t r (stS t s (stY t s)) := if_neg h0
        have hs3 := sOK_s hk2 hs2 h0
        obtain ⟨y1, y2, y3⟩ := stY_s h0
        rw [e1] at hQ
        refine ⟨id, c_lot (P := opP t s.2.2.2.1 s.2.1 s.2.2.1) (ix := lcg s.1 / 65536 % (opl t s.2.2.2.1 s.2.1 s.2.2.1).length) (Nat.mod_lt _ (by omega)) (fun z hz => ?_) 8 0 _ rfl rfl⟩
        have hz2 : z = stY t s := hz
        rw [hz2]
        clear hz hz2 g2 q4 q5
        generalize stY t s = y at *
        obtain ⟨m, p, x, nw, c⟩ := s
        dsimp only at *
        rcases s3 with rfl | ⟨hp, hpx⟩
        · have q6 : (v7 = (-1 : Int32)) = True := eq_true h7
          simp (disch := omega) only [pk_mul, nI_add, ksub, kdv, kd8, kd64, kd2, kd3, km8, km64, kt8, ke8, ke64, kcl, kin, kle, klt, keq, up_s, up_n, up_u, true_and, and_true, false_implies, true_implies, not_false_eq_true, not_true_eq_false, q6, h45]
          refine ih (stS t (m, 8, x, nw, c) y) _ _ (pvn (by omega)).symm (by show c + 1 + r = n; omega) (fr_MT (S := [87]) (F := [45]) (fr_73 (fr_refl _ _ _) rfl) hM2 rfl) hs3 ?_ (fun k h1 => ?_) (fun J k1 k2 k3 k4 => hQ J k1 k2 k3 (fr_trans (fr_73 (fr_refl _ _ _) rfl) k4))
          · simp (disch := omega) only [pk_mul, nI_add, ksub, kdv, kd8, kd64, kd2, kd3, km8, km64, kt8, ke8, ke64, kcl, kin, kle, klt, keq, up_s, up_n, up_u, true_and, and_true, false_implies, true_implies, not_false_eq_true, not_true_eq_false]
            rfl
          · simp (disch := omega) only [pk_mul, nI_add, ksub, kdv, kd8, kd64, kd2, kd3, km8, km64, kt8, ke8, ke64, kcl, kin, kle, klt, keq, up_s, up_n, up_u, true_and, and_true, false_implies, true_implies, not_false_eq_true, not_true_eq_false]
            exact h87 k h1
        · have q6 := km1 (n := p) (by omega)
          rw [h7, pvn hp]
          have e2 := h87 (64 * p + 8 * x + y) (by omega)
          have y4 : 0 < nw (64 * p + 8 * x + y) := by omega
          simp (disch := omega) only [pk_mul, nI_add, ksub, kdv, kd8, kd64, kd2, kd3, km8, km64, kt8, ke8, ke64, kcl, kin, kle, klt, keq, up_s, up_n, up_u, true_and, and_true, false_implies, true_implies, not_false_eq_true, not_true_eq_false, q6, h45, e2]
          refine ih (stS t (m, p, x, nw, c) y) _ _ (pvn (by omega)).symm (by show c + 1 + r = n; omega) (fr_MT (S := [87]) (F := [45]) (fr_73 (fr_up (fr_refl _ _ _) rfl) rfl) hM2 rfl) hs3 ?_ (fun k h1 => ?_) (fun J k1 k2 k3 k4 => hQ J k1 k2 k3 (fr_trans (fr_73 (fr_up (fr_refl _ _ _) rfl) rfl) k4))
          · simp (disch := omega) only [pk_mul, nI_add, ksub, kdv, kd8, kd64, kd2, kd3, km8, km64, kt8, ke8, ke64, kcl, kin, kle, klt, keq, up_s, up_n, up_u, true_and, and_true, false_implies, true_implies, not_false_eq_true, not_true_eq_false]
            rfl
          · have e5 : (stS t (m, p, x, nw, c) y).2.2.2.1 = va_up nw (64 * p + 8 * x + y) (nw (64 * p + 8 * x + y) - 1) := if_neg (show ¬ p = 8 by omega)
            rw [e5]
            by_cases he : k = 64 * p + 8 * x + y
            · rw [he]
              simp (disch := omega) only [pk_mul, nI_add, ksub, kdv, kd8, kd64, kd2, kd3, km8, km64, kt8, ke8, ke64, kcl, kin, kle, klt, keq, up_s, up_n, up_u, true_and, and_true, false_implies, true_implies, not_false_eq_true, not_true_eq_false]
            · simp (disch := omega) only [pk_mul, nI_add, ksub, kdv, kd8, kd64, kd2, kd3, km8, km64, kt8, ke8, ke64, kcl, kin, kle, klt, keq, up_s, up_n, up_u, true_and, and_true, false_implies, true_implies, not_false_eq_true, not_true_eq_false]
              exact h87 k h1
theorem c_draws {e : am_V} {L : Nat → Nat → Int64} {t : tw} {n m x : Nat} {I : Nat → Nat → Int32} {Q : Int32 → (Nat → Nat → Int32) → Prop} (hM : MT t I) (hk : tok t) (hn : n ≤ 20) (hm : m < 2147483648) (hx : x < t 0 0) (hQ : ∀ J, sOK t (strw t n (m, 8, x, t 3, 0)) → J 73 45 = nI (strw t n (m, 8, x, t 3, 0)).2.2.2.2 → (∀ k, k < 512 → J 87 k = nI ((strw t n (m, 8, x, t 3, 0)).2.2.2.1 k)) → fr [87] [45] I J → Q (nI (strw t n (m, 8, x, t 3, 0)).2.2.1) J) : C_X11_draws_73 e (lN m) (nI x) (nI n) I L Q := by
  have hM2 := hM
  have hk2 := hk
  obtain ⟨m0, m1, m2, m3, m4, m5, mS, mU, mL, mF, mO, mH, mA, mK⟩ := hM
  obtain ⟨o0, oT, oZ, oY, oD, o9, oN, o28, oB, oX, oE, oF, oA, oH, oU, oV⟩ := hk
  refine b_X11_draws_73 (c_asLeft mL (fun F' hF => ?_))
  have f1 : fr [87] [45] I (va_up (va_up I 87 F') 73 (va_up (va_up I 87 F' 73) 45 (nI 0))) := fr_73 (fr_up (fr_refl _ _ _) rfl) rfl
  refine m_draws hk2 hn n (m, 8, x, t 3, 0) _ _ rfl (by show 0 + n = n; omega) (fr_MT f1 hM2 rfl) ⟨hm, hx, Or.inl rfl, fun k h => (oB k h).2, oX⟩ ?_ (fun k h1 => ?_) (fun J k1 k2 k3 k4 => hQ J k1 k2 k3 (fr_trans f1 k4))
  · simp (disch := omega) only [pk_mul, nI_add, ksub, kdv, kd8, kd64, kd2, kd3, km8, km64, kt8, ke8, ke64, kcl, kin, kle, klt, keq, up_s, up_n, up_u, true_and, and_true, false_implies, true_implies, not_false_eq_true, not_true_eq_false]
  · simp (disch := omega) only [pk_mul, nI_add, ksub, kdv, kd8, kd64, kd2, kd3, km8, km64, kt8, ke8, ke64, kcl, kin, kle, klt, keq, up_s, up_n, up_u, true_and, and_true, false_implies, true_implies, not_false_eq_true, not_true_eq_false]
    exact hF k h1
theorem klt20 (v : Int32) : nI 20 < v ↔ ¬ v ≤ nI 20 := by
  rw [Int32.le_iff_toInt_le, Int32.lt_iff_toInt_lt]
  omega
theorem klt2e (v : Int32) : nI 2000000000 < v ↔ ¬ v ≤ nI 2000000000 := by
  rw [Int32.le_iff_toInt_le, Int32.lt_iff_toInt_lt]
  omega
theorem kl2e {x : Int32} : (2000000000 : Int64) < x.toInt64 ↔ ¬ x ≤ nI 2000000000 := klit 2000000000 (by decide)
theorem q_drawn {e : am_V} {I : Nat → Nat → Int32} {L : Nat → Nat → Int64} {t : tw} {Q : Int32 → Int32 → (Nat → Nat → Int32) → (Nat → Nat → Int64) → Prop} {v1 v2 v3 v4 : Int32} (hC : CT t I) (hM : MT t I) (hk : tok t) (hQ : ∀ r J M, fr SC FC I J → frL L M → Q r r J M) : C_X10_drawn_0 e v1 v2 v3 v4 I L (fun r J M => C_X11_drawn_73 e v1 v2 v3 v4 J M (fun r' K => Q r r' K M)) := by
  have hC2 := hC
  have hM2 := hM
  have hk2 := hk
  obtain ⟨c0, c1, c2, c3, c4, c5, c6, c7, c8, cS, cD, cN, cA, cT, cM, cR, cF, cO, cH, cL⟩ := hC
  obtain ⟨m0, m1, m2, m3, m4, m5, mS, mU, mL, mF, mO, mH, mA, mK⟩ := hM
  obtain ⟨o0, oT, oZ, oY, oD, o9, oN, o28, oB, oX, oE, oF, oA, oH, oU, oV⟩ := hk
  have f0 : fr SC FC I (va_up I 73 (va_up (I 73) 0 (nI 0))) := fr_73 (fr_refl _ _ _) rfl
  rcases crl v1 2000000000 (by decide) with ax | ⟨ax, dx⟩ | ⟨s, hs, rfl⟩
  · (refine b_X10_drawn_0 ?_; simp (disch := omega) only [pk_mul, nI_add, ksub, kdv, kd8, kd64, kd2, kd3, km8, km64, kt8, ke8, ke64, kcl, kin, kle, klt, keq, up_s, up_n, up_u, true_and, and_true, false_implies, true_implies, not_false_eq_true, not_true_eq_false, ax, klt2e, klt20, c0, knl]; refine b_X11_drawn_73 ?_; simp (disch := omega) only [pk_mul, nI_add, ksub, kdv, kd8, kd64, kd2, kd3, km8, km64, kt8, ke8, ke64, kcl, kin, kle, klt, keq, up_s, up_n, up_u, true_and, and_true, false_implies, true_implies, not_false_eq_true, not_true_eq_false, ax, kl2e, kl20, kl2, m1, kzl, kcz, knl]; exact hQ _ _ _ f0 (frL_r L))
  · (refine b_X10_drawn_0 ?_; simp (disch := omega) only [pk_mul, nI_add, ksub, kdv, kd8, kd64, kd2, kd3, km8, km64, kt8, ke8, ke64, kcl, kin, kle, klt, keq, up_s, up_n, up_u, true_and, and_true, false_implies, true_implies, not_false_eq_true, not_true_eq_false, ax, dx, klt2e, klt20, c0, knl]; refine b_X11_drawn_73 ?_; simp (disch := omega) only [pk_mul, nI_add, ksub, kdv, kd8, kd64, kd2, kd3, km8, km64, kt8, ke8, ke64, kcl, kin, kle, klt, keq, up_s, up_n, up_u, true_and, and_true, false_implies, true_implies, not_false_eq_true, not_true_eq_false, ax, dx, kl2e, kl20, kl2, m1, kzl, kcz, knl]; exact hQ _ _ _ f0 (frL_r L))
  · have gs : (s ≤ 2000000000) = True := eq_true hs
    have gs2 : (2000000000 < s) = False := eq_false (by omega)
    rcases crs v2 (t 0 0) (by omega) with ax | ⟨ax, dx⟩ | ⟨x, hx, rfl⟩
    · (refine b_X10_drawn_0 ?_; simp (disch := omega) only [pk_mul, nI_add, ksub, kdv, kd8, kd64, kd2, kd3, km8, km64, kt8, ke8, ke64, kcl, kin, kle, klt, keq, up_s, up_n, up_u, true_and, and_true, false_implies, true_implies, not_false_eq_true, not_true_eq_false, gs2, ax, klt20, c0, knl]; refine b_X11_drawn_73 ?_; simp (disch := omega) only [pk_mul, nI_add, ksub, kdv, kd8, kd64, kd2, kd3, km8, km64, kt8, ke8, ke64, kcl, kin, kle, klt, keq, up_s, up_n, up_u, true_and, and_true, false_implies, true_implies, not_false_eq_true, not_true_eq_false, gs, ax, kl2e, kl20, kl2, m1, kzl, kcz, knl]; exact hQ _ _ _ f0 (frL_r L))
    · (refine b_X10_drawn_0 ?_; simp (disch := omega) only [pk_mul, nI_add, ksub, kdv, kd8, kd64, kd2, kd3, km8, km64, kt8, ke8, ke64, kcl, kin, kle, klt, keq, up_s, up_n, up_u, true_and, and_true, false_implies, true_implies, not_false_eq_true, not_true_eq_false, gs2, ax, dx, klt20, c0, knl]; refine b_X11_drawn_73 ?_; simp (disch := omega) only [pk_mul, nI_add, ksub, kdv, kd8, kd64, kd2, kd3, km8, km64, kt8, ke8, ke64, kcl, kin, kle, klt, keq, up_s, up_n, up_u, true_and, and_true, false_implies, true_implies, not_false_eq_true, not_true_eq_false, gs, ax, dx, kl2e, kl20, kl2, m1, kzl, kcz, knl]; exact hQ _ _ _ f0 (frL_r L))
    · have gx : (t 0 0 ≤ x) = False := eq_false (by omega)
      rcases crl v3 20 (by decide) with ay | ⟨ay, dy⟩ | ⟨n, hn, rfl⟩
      · (refine b_X10_drawn_0 ?_; simp (disch := omega) only [pk_mul, nI_add, ksub, kdv, kd8, kd64, kd2, kd3, km8, km64, kt8, ke8, ke64, kcl, kin, kle, klt, keq, up_s, up_n, up_u, true_and, and_true, false_implies, true_implies, not_false_eq_true, not_true_eq_false, gs2, gx, ay, klt20, c0, knl]; refine b_X11_drawn_73 ?_; simp (disch := omega) only [pk_mul, nI_add, ksub, kdv, kd8, kd64, kd2, kd3, km8, km64, kt8, ke8, ke64, kcl, kin, kle, klt, keq, up_s, up_n, up_u, true_and, and_true, false_implies, true_implies, not_false_eq_true, not_true_eq_false, gs, gx, ay, kl2e, kl20, kl2, m1, kzl, kcz, knl]; exact hQ _ _ _ f0 (frL_r L))
      · (refine b_X10_drawn_0 ?_; simp (disch := omega) only [pk_mul, nI_add, ksub, kdv, kd8, kd64, kd2, kd3, km8, km64, kt8, ke8, ke64, kcl, kin, kle, klt, keq, up_s, up_n, up_u, true_and, and_true, false_implies, true_implies, not_false_eq_true, not_true_eq_false, gs2, gx, ay, dy, klt20, c0, knl]; refine b_X11_drawn_73 ?_; simp (disch := omega) only [pk_mul, nI_add, ksub, kdv, kd8, kd64, kd2, kd3, km8, km64, kt8, ke8, ke64, kcl, kin, kle, klt, keq, up_s, up_n, up_u, true_and, and_true, false_implies, true_implies, not_false_eq_true, not_true_eq_false, gs, gx, ay, dy, kl2e, kl20, kl2, m1, kzl, kcz, knl]; exact hQ _ _ _ f0 (frL_r L))
      · have gn : (n ≤ 20) = True := eq_true hn
        have gn2 : (20 < n) = False := eq_false (by omega)
        have g64 := nI_64 (n := s) (by omega)
        have run : ∀ w : Nat, w ≤ 2 → C_X10_drawn_0 e (nI s) (nI x) (nI n) (nI w) I L (fun r J M => C_X11_drawn_73 e (nI s) (nI x) (nI n) (nI w) J M (fun r' K => Q r r' K M)) := by
          intro w hw
          have gw : (w ≤ 2) = True := eq_true hw
          refine b_X10_drawn_0 ?_
          simp (disch := omega) only [pk_mul, nI_add, ksub, kdv, kd8, kd64, kd2, kd3, km8, km64, kt8, ke8, ke64, kcl, kin, kle, klt, keq, up_s, up_n, up_u, true_and, and_true, false_implies, true_implies, not_false_eq_true, not_true_eq_false, gs2, gx, gn2, gw, klt20, c0, knl]
          refine c_stray hC2 hk2 hn (by omega) hx (fun J M j1 j2 fJ fM => ?_)
          have hC3 := fr_CT fJ hC2 rfl
          have hM3 := fr_MT fJ hM2 rfl
          have fJ2 : fr SC FC I J := fr_mono fJ rfl rfl
          have fM2 : frL L M := fun a h1 h2 h3 => fM a h1
          have fin : ∀ (W : Nat → Nat → Int32) (r : Int32), J = W → ((w = 0 ∧ r = nI (strw t n (s, 8, x, t 3, 0)).2.2.1) ∨ (w ≠ 0 ∧ w = 1 ∧ r = nI (strw t n (s, 8, x, t 3, 0)).2.2.2.2) ∨ (w ≠ 0 ∧ w ≠ 1 ∧ r = nI (sm (strw t n (s, 8, x, t 3, 0)).2.2.2.1 512))) → C_X11_drawn_73 e (nI s) (nI x) (nI n) (nI w) W M (fun r' K => Q r r' K M) := by
            rintro W r rfl hr
            have hM4 := hM3
            obtain ⟨_, m1', _⟩ := hM4
            refine b_X11_drawn_73 ?_
            simp (disch := omega) only [pk_mul, nI_add, ksub, kdv, kd8, kd64, kd2, kd3, km8, km64, kt8, ke8, ke64, kcl, kin, kle, klt, keq, up_s, up_n, up_u, true_and, and_true, false_implies, true_implies, not_false_eq_true, not_true_eq_false, gs, gx, gn, gw, kl2e, kl20, kl2, m1', kzl, kcz, knl]
            rw [g64]
            have f3 : fr [87] [0] J (va_up J 73 (va_up (J 73) 0 (nI 0))) := fr_73 (fr_refl _ _ _) rfl
            refine c_draws (fr_MT f3 hM3 rfl) hk2 hn (by omega) hx (fun K k1 k2 k3 k4 => ?_)
            have f5 : fr SC FC I K := fr_trans fJ2 (fr_trans (fr_mono f3 rfl rfl) (fr_mono k4 rfl rfl))
            rcases hr with ⟨h1, rfl⟩ | ⟨h1, h2, rfl⟩ | ⟨h1, h2, rfl⟩
            · exact ⟨fun _ => hQ _ _ _ f5 fM2, fun h => absurd h1 h⟩
            · refine ⟨fun h => absurd h h1, fun _ => ⟨fun _ => ?_, fun h => absurd h2 h⟩⟩
              rw [k2]
              exact hQ _ _ _ f5 fM2
            · refine ⟨fun h => absurd h h1, fun _ => ⟨fun h => absurd h h2, fun _ => ?_⟩⟩
              exact c_sumNow k3 (hQ _ _ _ f5 fM2)
          have : w = 0 ∨ w = 1 ∨ w = 2 := by omega
          rcases this with rfl | rfl | rfl
          · refine ⟨fun _ => ?_, fun h => absurd rfl h⟩
            rw [j1.1]
            exact fin J _ rfl (Or.inl ⟨rfl, rfl⟩)
          · refine ⟨fun h => absurd h (by decide), fun _ => ⟨fun _ => ?_, fun h => absurd rfl h⟩⟩
            rw [j1.2.1]
            exact fin J _ rfl (Or.inr (Or.inl ⟨by decide, rfl, rfl⟩))
          · refine ⟨fun h => absurd h (by decide), fun _ => ⟨fun h => absurd h (by decide), fun _ => ?_⟩⟩
            exact c_sum_71 hC3 j1.2.2.2 j2.2.2.2.2 (fin J _ rfl (Or.inr (Or.inr ⟨by decide, by decide, rfl⟩)))
        rcases w012 v4 with a2 | ⟨a2, d2⟩ | rfl | rfl | rfl
        · (refine b_X10_drawn_0 ?_; simp (disch := omega) only [pk_mul, nI_add, ksub, kdv, kd8, kd64, kd2, kd3, km8, km64, kt8, ke8, ke64, kcl, kin, kle, klt, keq, up_s, up_n, up_u, true_and, and_true, false_implies, true_implies, not_false_eq_true, not_true_eq_false, gs2, gx, gn2, a2, klt20, c0, knl]; refine b_X11_drawn_73 ?_; simp (disch := omega) only [pk_mul, nI_add, ksub, kdv, kd8, kd64, kd2, kd3, km8, km64, kt8, ke8, ke64, kcl, kin, kle, klt, keq, up_s, up_n, up_u, true_and, and_true, false_implies, true_implies, not_false_eq_true, not_true_eq_false, gs, gx, gn, a2, kl2e, kl20, kl2, m1, kzl, kcz, knl]; exact hQ _ _ _ f0 (frL_r L))
        · (refine b_X10_drawn_0 ?_; simp (disch := omega) only [pk_mul, nI_add, ksub, kdv, kd8, kd64, kd2, kd3, km8, km64, kt8, ke8, ke64, kcl, kin, kle, klt, keq, up_s, up_n, up_u, true_and, and_true, false_implies, true_implies, not_false_eq_true, not_true_eq_false, gs2, gx, gn2, a2, d2, klt20, c0, knl]; refine b_X11_drawn_73 ?_; simp (disch := omega) only [pk_mul, nI_add, ksub, kdv, kd8, kd64, kd2, kd3, km8, km64, kt8, ke8, ke64, kcl, kin, kle, klt, keq, up_s, up_n, up_u, true_and, and_true, false_implies, true_implies, not_false_eq_true, not_true_eq_false, gs, gx, gn, a2, d2, kl2e, kl20, kl2, m1, kzl, kcz, knl]; exact hQ _ _ _ f0 (frL_r L))
        · exact run 0 (by omega)
        · exact run 1 (by omega)
        · exact run 2 (by omega)
theorem k1l {x : Int32} : x.toInt64 < (1 : Int64) ↔ x < nI 1 := by
  rw [Int64.lt_iff_toInt_lt, Int32.lt_iff_toInt_lt, toInt64_toInt]
  exact Iff.rfl
theorem q_strays {e : am_V} {I : Nat → Nat → Int32} {L : Nat → Nat → Int64} {t : tw} {Q : Int32 → Int32 → (Nat → Nat → Int32) → (Nat → Nat → Int64) → Prop} {v1 v2 v3 v4 v5 : Int32} (hC : CT t I) (hM : MT t I) (hk : tok t) (hQ : ∀ r J M, fr SC FC I J → frL L M → Q r r J M) : C_X10_strays_0 e v1 v2 v3 v4 v5 I L (fun r J M => C_X11_strays_73 e v1 v2 v3 v4 v5 J M (fun r' K => Q r r' K M)) := by
  have hC2 := hC
  have hM2 := hM
  have hk2 := hk
  obtain ⟨c0, c1, c2, c3, c4, c5, c6, c7, c8, cS, cD, cN, cA, cT, cM, cR, cF, cO, cH, cL⟩ := hC
  obtain ⟨m0, m1, m2, m3, m4, m5, mS, mU, mL, mF, mO, mH, mA, mK⟩ := hM
  obtain ⟨o0, oT, oZ, oY, oD, o9, oN, o28, oB, oX, oE, oF, oA, oH, oU, oV⟩ := hk
  have f0 : fr SC FC I (va_up I 73 (va_up (I 73) 0 (nI 0))) := fr_73 (fr_refl _ _ _) rfl
  rcases crl v1 2000000000 (by decide) with ax | ⟨ax, dx⟩ | ⟨s, hs, rfl⟩
  · (refine b_X10_strays_0 ?_; simp (disch := omega) only [pk_mul, nI_add, ksub, kdv, kd8, kd64, kd2, kd3, km8, km64, kt8, ke8, ke64, kcl, kin, kle, klt, keq, up_s, up_n, up_u, true_and, and_true, false_implies, true_implies, not_false_eq_true, not_true_eq_false, ax, klt2e, klt20, c0, knl]; refine b_X11_strays_73 ?_; simp (disch := omega) only [pk_mul, nI_add, ksub, kdv, kd8, kd64, kd2, kd3, km8, km64, kt8, ke8, ke64, kcl, kin, kle, klt, keq, up_s, up_n, up_u, true_and, and_true, false_implies, true_implies, not_false_eq_true, not_true_eq_false, ax, kl2e, kl20, k1l, m1, kzl, kcz, knl]; exact hQ _ _ _ f0 (frL_r L))
  · (refine b_X10_strays_0 ?_; simp (disch := omega) only [pk_mul, nI_add, ksub, kdv, kd8, kd64, kd2, kd3, km8, km64, kt8, ke8, ke64, kcl, kin, kle, klt, keq, up_s, up_n, up_u, true_and, and_true, false_implies, true_implies, not_false_eq_true, not_true_eq_false, ax, dx, klt2e, klt20, c0, knl]; refine b_X11_strays_73 ?_; simp (disch := omega) only [pk_mul, nI_add, ksub, kdv, kd8, kd64, kd2, kd3, km8, km64, kt8, ke8, ke64, kcl, kin, kle, klt, keq, up_s, up_n, up_u, true_and, and_true, false_implies, true_implies, not_false_eq_true, not_true_eq_false, ax, dx, kl2e, kl20, k1l, m1, kzl, kcz, knl]; exact hQ _ _ _ f0 (frL_r L))
  · have gs : (s ≤ 2000000000) = True := eq_true hs
    have gs2 : (2000000000 < s) = False := eq_false (by omega)
    rcases crs v3 (t 0 0) (by omega) with ax | ⟨ax, dx⟩ | ⟨x, hx, rfl⟩
    · (refine b_X10_strays_0 ?_; simp (disch := omega) only [pk_mul, nI_add, ksub, kdv, kd8, kd64, kd2, kd3, km8, km64, kt8, ke8, ke64, kcl, kin, kle, klt, keq, up_s, up_n, up_u, true_and, and_true, false_implies, true_implies, not_false_eq_true, not_true_eq_false, gs2, ax, klt20, c0, knl]; refine b_X11_strays_73 ?_; simp (disch := omega) only [pk_mul, nI_add, ksub, kdv, kd8, kd64, kd2, kd3, km8, km64, kt8, ke8, ke64, kcl, kin, kle, klt, keq, up_s, up_n, up_u, true_and, and_true, false_implies, true_implies, not_false_eq_true, not_true_eq_false, gs, ax, kl2e, kl20, k1l, m1, kzl, kcz, knl]; exact hQ _ _ _ f0 (frL_r L))
    · (refine b_X10_strays_0 ?_; simp (disch := omega) only [pk_mul, nI_add, ksub, kdv, kd8, kd64, kd2, kd3, km8, km64, kt8, ke8, ke64, kcl, kin, kle, klt, keq, up_s, up_n, up_u, true_and, and_true, false_implies, true_implies, not_false_eq_true, not_true_eq_false, gs2, ax, dx, klt20, c0, knl]; refine b_X11_strays_73 ?_; simp (disch := omega) only [pk_mul, nI_add, ksub, kdv, kd8, kd64, kd2, kd3, km8, km64, kt8, ke8, ke64, kcl, kin, kle, klt, keq, up_s, up_n, up_u, true_and, and_true, false_implies, true_implies, not_false_eq_true, not_true_eq_false, gs, ax, dx, kl2e, kl20, k1l, m1, kzl, kcz, knl]; exact hQ _ _ _ f0 (frL_r L))
    · have gx : (t 0 0 ≤ x) = False := eq_false (by omega)
      rcases crl v4 20 (by decide) with ay | ⟨ay, dy⟩ | ⟨n, hn, rfl⟩
      · (refine b_X10_strays_0 ?_; simp (disch := omega) only [pk_mul, nI_add, ksub, kdv, kd8, kd64, kd2, kd3, km8, km64, kt8, ke8, ke64, kcl, kin, kle, klt, keq, up_s, up_n, up_u, true_and, and_true, false_implies, true_implies, not_false_eq_true, not_true_eq_false, gs2, gx, ay, klt20, c0, knl]; refine b_X11_strays_73 ?_; simp (disch := omega) only [pk_mul, nI_add, ksub, kdv, kd8, kd64, kd2, kd3, km8, km64, kt8, ke8, ke64, kcl, kin, kle, klt, keq, up_s, up_n, up_u, true_and, and_true, false_implies, true_implies, not_false_eq_true, not_true_eq_false, gs, gx, ay, kl2e, kl20, k1l, m1, kzl, kcz, knl]; exact hQ _ _ _ f0 (frL_r L))
      · (refine b_X10_strays_0 ?_; simp (disch := omega) only [pk_mul, nI_add, ksub, kdv, kd8, kd64, kd2, kd3, km8, km64, kt8, ke8, ke64, kcl, kin, kle, klt, keq, up_s, up_n, up_u, true_and, and_true, false_implies, true_implies, not_false_eq_true, not_true_eq_false, gs2, gx, ay, dy, klt20, c0, knl]; refine b_X11_strays_73 ?_; simp (disch := omega) only [pk_mul, nI_add, ksub, kdv, kd8, kd64, kd2, kd3, km8, km64, kt8, ke8, ke64, kcl, kin, kle, klt, keq, up_s, up_n, up_u, true_and, and_true, false_implies, true_implies, not_false_eq_true, not_true_eq_false, gs, gx, ay, dy, kl2e, kl20, k1l, m1, kzl, kcz, knl]; exact hQ _ _ _ f0 (frL_r L))
      · have gn : (n ≤ 20) = True := eq_true hn
        have gn2 : (20 < n) = False := eq_false (by omega)
        by_cases b1 : v2 < nI 1
        · refine b_X10_strays_0 ?_
          simp (disch := omega) only [pk_mul, nI_add, ksub, kdv, kd8, kd64, kd2, kd3, km8, km64, kt8, ke8, ke64, kcl, kin, kle, klt, keq, up_s, up_n, up_u, true_and, and_true, false_implies, true_implies, not_false_eq_true, not_true_eq_false, gs2, gx, gn2, klt20, c0, knl, b1]
          repeat' (first | (refine b_X11_strays_73 ?_; simp (disch := omega) only [pk_mul, nI_add, ksub, kdv, kd8, kd64, kd2, kd3, km8, km64, kt8, ke8, ke64, kcl, kin, kle, klt, keq, up_s, up_n, up_u, true_and, and_true, false_implies, true_implies, not_false_eq_true, not_true_eq_false, gs, gx, gn, kl2e, kl20, k1l, m1, kzl, kcz, knl, b1]; exact hQ _ _ _ f0 (frL_r L)) | refine And.intro (fun _ => ?_) (fun _ => ?_))
        · by_cases b2 : v2 ≤ nI 20
          · have b3 : ¬ v2 < nI 0 := fun h => b1 (by
              rw [Int32.lt_iff_toInt_lt] at h ⊢
              have h5 : (nI 0).toInt = 0 := rfl
              have h6 : (nI 1).toInt = 1 := rfl
              omega)
            obtain ⟨N, hN, rfl⟩ := nI_of b3
            rw [nI_leI hN (by decide)] at b2
            have b4 : ¬ N < 1 := by
              rw [nI_ltI hN (by decide)] at b1
              exact b1
            have gN : (N < 1) = False := eq_false b4
            have gN2 : (N ≤ 20) = True := eq_true b2
            rcases crs v5 (t 0 0) (by omega) with az | ⟨az, dz⟩ | ⟨z, hz, rfl⟩
            · (refine b_X10_strays_0 ?_; simp (disch := omega) only [pk_mul, nI_add, ksub, kdv, kd8, kd64, kd2, kd3, km8, km64, kt8, ke8, ke64, kcl, kin, kle, klt, keq, up_s, up_n, up_u, true_and, and_true, false_implies, true_implies, not_false_eq_true, not_true_eq_false, gs2, gx, gn2, gN, gN2, az, klt20, c0, knl]; refine b_X11_strays_73 ?_; simp (disch := omega) only [pk_mul, nI_add, ksub, kdv, kd8, kd64, kd2, kd3, km8, km64, kt8, ke8, ke64, kcl, kin, kle, klt, keq, up_s, up_n, up_u, true_and, and_true, false_implies, true_implies, not_false_eq_true, not_true_eq_false, gs, gx, gn, gN, gN2, az, kl2e, kl20, k1l, m1, kzl, kcz, knl]; exact hQ _ _ _ f0 (frL_r L))
            · (refine b_X10_strays_0 ?_; simp (disch := omega) only [pk_mul, nI_add, ksub, kdv, kd8, kd64, kd2, kd3, km8, km64, kt8, ke8, ke64, kcl, kin, kle, klt, keq, up_s, up_n, up_u, true_and, and_true, false_implies, true_implies, not_false_eq_true, not_true_eq_false, gs2, gx, gn2, gN, gN2, az, dz, klt20, c0, knl]; refine b_X11_strays_73 ?_; simp (disch := omega) only [pk_mul, nI_add, ksub, kdv, kd8, kd64, kd2, kd3, km8, km64, kt8, ke8, ke64, kcl, kin, kle, klt, keq, up_s, up_n, up_u, true_and, and_true, false_implies, true_implies, not_false_eq_true, not_true_eq_false, gs, gx, gn, gN, gN2, az, dz, kl2e, kl20, k1l, m1, kzl, kcz, knl]; exact hQ _ _ _ f0 (frL_r L))
            · have gz : (t 0 0 ≤ z) = False := eq_false (by omega)
              refine b_X10_strays_0 ?_
              simp (disch := omega) only [pk_mul, nI_add, ksub, kdv, kd8, kd64, kd2, kd3, km8, km64, kt8, ke8, ke64, kcl, kin, kle, klt, keq, up_s, up_n, up_u, true_and, and_true, false_implies, true_implies, not_false_eq_true, not_true_eq_false, gs2, gx, gn2, gN, gN2, gz, klt20, c0, knl]
              refine lp_up (n := N) (S := Nat × (Nat → Nat → Int32) × (Nat → Nat → Int64)) (T := fun i S => T_X10_strays_0_p43 e (nI s) (nI N) (nI x) (nI n) (nI z) (nI S.1) (nI i) S.2.1 S.2.2 _) (fun i S => S.1 = cn (fun i => decide ((strw t n (s + i, 8, x, t 3, 0)).2.2.1 = z)) i ∧ fr [70, 71, 72] [] I S.2.1 ∧ ∀ a, a ≠ 70 → S.2.2 a = L a) ?_ ?_ 0 (0, I, L) (Nat.zero_le _) ⟨rfl, fr_refl _ _ _, fun _ _ => rfl⟩
              · rintro i ⟨c, J, M⟩ hi ⟨i1, i2, i3⟩ hnext
                dsimp only at i1 i2 i3 hnext ⊢
                have q1 : (N ≤ i) = False := eq_false (by omega)
                refine b_X10_strays_0_p43 ?_
                simp (disch := omega) only [pk_mul, nI_add, ksub, kdv, kd8, kd64, kd2, kd3, km8, km64, kt8, ke8, ke64, kcl, kin, kle, klt, keq, up_s, up_n, up_u, true_and, and_true, false_implies, true_implies, not_false_eq_true, not_true_eq_false, q1]
                refine c_stray (fr_CT i2 hC2 rfl) hk2 hn (by omega) hx (fun J2 M2 j1 j2 fJ fM => ?_)
                have sx := j2.2.1
                rw [j1.1]
                by_cases he : (strw t n (s + i, 8, x, t 3, 0)).2.2.1 = z
                · refine ⟨fun _ => ?_, fun h => absurd (by rw [he]) h⟩
                  refine hnext (c + 1, J2, M2) ⟨?_, fr_trans i2 fJ, fun a ha => (fM a ha).trans (i3 a ha)⟩
                  show c + 1 = cn _ i + (if decide _ = true then 1 else 0)
                  rw [if_pos (decide_eq_true he), i1]
                · refine ⟨fun h => absurd ((nI_eq (by omega) (by omega)).mp h) he, fun _ => ?_⟩
                  refine hnext (c, J2, M2) ⟨?_, fr_trans i2 fJ, fun a ha => (fM a ha).trans (i3 a ha)⟩
                  show c = cn _ i + (if decide _ = true then 1 else 0)
                  rw [if_neg (by rw [decide_eq_true_eq]; exact he), i1]
                  rfl
              · rintro ⟨c, J, M⟩ ⟨i1, i2, i3⟩
                dsimp only at i1 i2 i3 ⊢
                have q1 : (N ≤ N) = True := eq_true (Nat.le_refl _)
                refine b_X10_strays_0_p43 ?_
                simp (disch := omega) only [pk_mul, nI_add, ksub, kdv, kd8, kd64, kd2, kd3, km8, km64, kt8, ke8, ke64, kcl, kin, kle, klt, keq, up_s, up_n, up_u, true_and, and_true, false_implies, true_implies, not_false_eq_true, not_true_eq_false, q1]
                have hM3 := fr_MT i2 hM2 rfl
                have hM4 := hM3
                obtain ⟨_, m1', _⟩ := hM4
                have fM2 : frL L M := fun a h1 h2 h3 => i3 a h1
                refine b_X11_strays_73 ?_
                simp (disch := omega) only [pk_mul, nI_add, ksub, kdv, kd8, kd64, kd2, kd3, km8, km64, kt8, ke8, ke64, kcl, kin, kle, klt, keq, up_s, up_n, up_u, true_and, and_true, false_implies, true_implies, not_false_eq_true, not_true_eq_false, gs, gx, gn, gN, gN2, gz, kl2e, kl20, k1l, m1', kzl, kcz, knl]
                have f3 : fr [87] [0, 45] J (va_up J 73 (va_up (J 73) 0 (nI 0))) := fr_73 (fr_refl _ _ _) rfl
                refine lp_up (n := N) (S := Nat × (Nat → Nat → Int32)) (T := fun i S => T_X11_strays_73_p47 e (nI s) (nI N) (nI x) (nI n) (nI z) (nI S.1) (nI i) S.2 M _) (fun i S => S.1 = cn (fun i => decide ((strw t n (s + i, 8, x, t 3, 0)).2.2.1 = z)) i ∧ fr [87] [0, 45] J S.2) ?_ ?_ 0 (0, _) (Nat.zero_le _) ⟨rfl, f3⟩
                · rintro i ⟨c', K⟩ hi ⟨l1, l2⟩ hnext
                  dsimp only at l1 l2 hnext ⊢
                  have q1 : (N ≤ i) = False := eq_false (by omega)
                  refine b_X11_strays_73_p47 ?_
                  simp (disch := omega) only [pk_mul, nI_add, ksub, kdv, kd8, kd64, kd2, kd3, km8, km64, kt8, ke8, ke64, kcl, kin, kle, klt, keq, up_s, up_n, up_u, true_and, and_true, false_implies, true_implies, not_false_eq_true, not_true_eq_false, q1]
                  rw [nI_64 (n := s) (by omega), nI_64 (n := i) (by omega), lN_add]
                  refine c_draws (fr_MT l2 hM3 rfl) hk2 hn (by omega) hx (fun K2 k1 k2 k3 k4 => ?_)
                  have sx := k1.2.1
                  by_cases he : (strw t n (s + i, 8, x, t 3, 0)).2.2.1 = z
                  · refine ⟨fun _ => ?_, fun h => absurd (by rw [he]) h⟩
                    refine hnext (c' + 1, K2) ⟨?_, fr_trans l2 (fr_mono k4 rfl rfl)⟩
                    show c' + 1 = cn _ i + (if decide _ = true then 1 else 0)
                    rw [if_pos (decide_eq_true he), l1]
                  · refine ⟨fun h => absurd ((nI_eq (by omega) (by omega)).mp h) he, fun _ => ?_⟩
                    refine hnext (c', K2) ⟨?_, fr_trans l2 (fr_mono k4 rfl rfl)⟩
                    show c' = cn _ i + (if decide _ = true then 1 else 0)
                    rw [if_neg (by rw [decide_eq_true_eq]; exact he), l1]
                    rfl
                · rintro ⟨c', K⟩ ⟨l1, l2⟩
                  dsimp only at l1 l2 ⊢
                  have q1 : (N ≤ N) = True := eq_true (Nat.le_refl _)
                  refine b_X11_strays_73_p47 ?_
                  simp (disch := omega) only [pk_mul, nI_add, ksub, kdv, kd8, kd64, kd2, kd3, km8, km64, kt8, ke8, ke64, kcl, kin, kle, klt, keq, up_s, up_n, up_u, true_and, and_true, false_implies, true_implies, not_false_eq_true, not_true_eq_false, q1]
                  rw [i1, l1]
                  exact hQ _ _ _ (fr_trans (fr_mono i2 rfl rfl) (fr_mono l2 rfl rfl)) fM2
          · refine b_X10_strays_0 ?_
            simp (disch := omega) only [pk_mul, nI_add, ksub, kdv, kd8, kd64, kd2, kd3, km8, km64, kt8, ke8, ke64, kcl, kin, kle, klt, keq, up_s, up_n, up_u, true_and, and_true, false_implies, true_implies, not_false_eq_true, not_true_eq_false, gs2, gx, gn2, klt20, c0, knl, b1, b2]
            repeat' (first | (refine b_X11_strays_73 ?_; simp (disch := omega) only [pk_mul, nI_add, ksub, kdv, kd8, kd64, kd2, kd3, km8, km64, kt8, ke8, ke64, kcl, kin, kle, klt, keq, up_s, up_n, up_u, true_and, and_true, false_implies, true_implies, not_false_eq_true, not_true_eq_false, gs, gx, gn, kl2e, kl20, k1l, m1, kzl, kcz, knl, b1, b2]; exact hQ _ _ _ f0 (frL_r L)) | refine And.intro (fun _ => ?_) (fun _ => ?_))
