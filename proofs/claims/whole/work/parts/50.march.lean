/-! slots: marches, what was seen -/
def SLs (s : Nat) (I : Nat → Nat → Int32) (L : Nat → Nat → Int64) : Prop := (I (29 + 2 * s) 1 = nI 0 ∧ I 74 s = (-1 : Int32)) ∨ ∃ w c, w < 4 ∧ c ≤ 60 ∧ I (29 + 2 * s) 1 = nI 1 ∧ I (29 + 2 * s) 2 = nI w ∧ I (29 + 2 * s) 3 = nI c ∧ I 74 s = nI w ∧ I 75 s = nI c ∧ ∀ k, k < c → L (30 + 2 * s) k = L 76 (60 * s + k)
def SL (I : Nat → Nat → Int32) (L : Nat → Nat → Int64) : Prop := ∀ s, s < 4 → SLs s I L
/-- a number that is a crossing -/
def gdc (n : Nat) (x : Int64) : Bool := !decide (x < (0 : Int64)) && decide (x < (nI n).toInt64)
theorem gdc_i {n : Nat} {x : Int64} : gdc n x = true ↔ ¬ x < (0 : Int64) ∧ x < (nI n).toInt64 := by
  unfold gdc
  rw [Bool.and_eq_true, decide_eq_true_eq, Bool.not_eq_true', decide_eq_false_iff_not]
theorem gdc_o {n : Nat} {x : Int64} (hn : n ≤ 8) (h : gdc n x = true) : ∃ g, g < n ∧ x = lN g := by
  obtain ⟨h1, h2⟩ := gdc_i.mp h
  rw [Int64.lt_iff_toInt_lt] at h1 h2
  rw [nI_l (by omega), lN_toInt (by omega)] at h2
  have h3 : (0 : Int64).toInt = 0 := rfl
  rw [h3] at h1
  refine ⟨x.toInt.toNat, by omega, ?_⟩
  rw [← Int64.toInt_inj, lN_toInt (by omega)]
  omega
theorem gdc_m {n : Nat} {x : Int64} (hn : n ≤ 8) : (nI n).toInt64 - (1 : Int64) < x ↔ ¬ x < (nI n).toInt64 := by
  rw [Int64.lt_iff_toInt_lt, Int64.lt_iff_toInt_lt, l64_sub1 (by omega), toInt64_toInt, nI_toInt (by omega)]
  omega
/-- a march: uses ahead of its street j + 1, whether it stops there -/
def nmA (lf g : Nat → Nat) : Nat → (Nat → Nat)
  | 0 => lf
  | j + 1 => if j = 0 then nmA lf g j else va_up (nmA lf g j) (64 * g (j - 1) + 8 * g j + g (j + 1)) (nmA lf g j (64 * g (j - 1) + 8 * g j + g (j + 1)) - 1)
def spj (st lf g : Nat → Nat) (j : Nat) : Bool := decide (st (8 * g j + g (j + 1)) = 0) || (!decide (j = 0) && decide (nmA lf g j (64 * g (j - 1) + 8 * g j + g (j + 1)) = 0))
def mrs (st lf g : Nat → Nat) (c : Nat) : Nat := if c = 0 then 0 else ff (spj st lf g) (c - 1) + 1
theorem nmA_b {lf g : Nat → Nat} (h : ∀ k, k < 512 → lf k ≤ 1000) (j : Nat) : ∀ k, k < 512 → nmA lf g j k ≤ 1000 := by
  induction j with
  | zero => exact h
  | succ j ih =>
    intro k hk
    show (if j = 0 then nmA lf g j else va_up (nmA lf g j) (64 * g (j - 1) + 8 * g j + g (j + 1)) (nmA lf g j (64 * g (j - 1) + 8 * g j + g (j + 1)) - 1)) k ≤ 1000
    split
    · exact ih k hk
    · by_cases he : k = 64 * g (j - 1) + 8 * g j + g (j + 1)
      · rw [he, up_s]
        have := ih (64 * g (j - 1) + 8 * g j + g (j + 1)) (by omega)
        omega
      · rw [up_n he]; exact ih k hk
theorem spj_t {st lf g : Nat → Nat} {j : Nat} : spj st lf g j = true ↔ st (8 * g j + g (j + 1)) = 0 ∨ (¬ j = 0 ∧ nmA lf g j (64 * g (j - 1) + 8 * g j + g (j + 1)) = 0) := by
  unfold spj
  rw [Bool.or_eq_true, Bool.and_eq_true, decide_eq_true_eq, decide_eq_true_eq, Bool.not_eq_true', decide_eq_false_iff_not]
theorem spj_f {st lf g : Nat → Nat} {j : Nat} (h : ¬ spj st lf g j = true) : spj st lf g j = false := by simpa using h
theorem c_areC_0 {e : am_V} {I : Nat → Nat → Int32} {L : Nat → Nat → Int64} {Q : Int32 → (Nat → Nat → Int32) → Prop} {n c : Nat} (h3 : I 29 3 = nI c) (hc : c ≤ 60) (c0 : I 3 0 = nI n) (h1 : (∀ k, k < c → gdc n (L 30 k) = true) → Q (nI 1) I) (h0 : (¬ ∀ k, k < c → gdc n (L 30 k) = true) → Q (nI 0) I) : C_X2_areCrossingsOf_29_3 e I L Q := by
  refine b_X2_areCrossingsOf_29_3 ?_
  refine lp_up (n := c) (S := Unit) (T := fun k _ => T_X2_areCrossingsOf_29_3_p2 e (nI k) I L Q) (fun k _ => ∀ k', k' < k → gdc n (L 30 k') = true) ?_ ?_ 0 () (Nat.zero_le _) (fun k' h => absurd h (Nat.not_lt_zero _))
  · intro k _ hk hi hnext
    have q1 : (c ≤ k) = False := eq_false (by omega)
    refine b_X2_areCrossingsOf_29_3_p2 ?_
    simp (disch := omega) only [pk_mul, nI_add, ksub, kdv, kd8, kd64, kd2, kd3, km8, km64, kt8, ke8, ke64, kcl, kin, kle, klt, keq, up_s, up_n, up_u, true_and, and_true, false_implies, true_implies, not_false_eq_true, not_true_eq_false, h3, q1, c0]
    refine ⟨fun hl => h0 (fun h => ?_), fun hl => ⟨fun hl2 => hnext () (fun k' hk' => ?_), fun hl2 => h0 (fun h => ?_)⟩⟩
    · exact (gdc_i.mp (h k hk)).1 hl
    · by_cases he : k' = k
      · rw [he]; exact gdc_i.mpr ⟨hl, hl2⟩
      · exact hi k' (by omega)
    · exact hl2 (gdc_i.mp (h k hk)).2
  · intro _ hi
    have q1 : (c ≤ c) = True := eq_true (Nat.le_refl _)
    refine b_X2_areCrossingsOf_29_3_p2 ?_
    simp (disch := omega) only [pk_mul, nI_add, ksub, kdv, kd8, kd64, kd2, kd3, km8, km64, kt8, ke8, ke64, kcl, kin, kle, klt, keq, up_s, up_n, up_u, true_and, and_true, false_implies, true_implies, not_false_eq_true, not_true_eq_false, h3, q1]
    exact h1 hi
theorem c_cAt_0 {e : am_V} {I : Nat → Nat → Int32} {L : Nat → Nat → Int64} {Q : Int32 → (Nat → Nat → Int32) → Prop} {c i : Nat} {g : Nat → Nat} (h3 : I 29 3 = nI c) (hc : c ≤ 60) (hi : i < c) (hg : ∀ k, k < c → L 30 k = lN (g k)) (hQ : Q (nI (g i)) I) : C_X2_crossingAt_29 e (nI i) I L Q := by
  have q1 : (c ≤ i) = False := eq_false (by omega)
  have e1 := hg i hi
  refine b_X2_crossingAt_29 ?_
  simp (disch := omega) only [pk_mul, nI_add, ksub, kdv, kd8, kd64, kd2, kd3, km8, km64, kt8, ke8, ke64, kcl, kin, kle, klt, keq, up_s, up_n, up_u, true_and, and_true, false_implies, true_implies, not_false_eq_true, not_true_eq_false, h3, q1, e1, knl, lN_i]
  exact hQ
theorem c_marched_0 {e : am_V} {I : Nat → Nat → Int32} {L : Nat → Nat → Int64} {Q : Int32 → (Nat → Nat → Int32) → Prop} {t : tw} {c : Nat} {g : Nat → Nat} (hC : CT t I) (hk : tok t) (h3 : I 29 3 = nI c) (hc : c ≤ 60) (hg : ∀ k, k < c → L 30 k = lN (g k)) (hg8 : ∀ k, k < c → g k < 8) (hQ : ∀ J, fr [2] [] I J → Q (nI (mrs (t 1) (t 3) g c)) J) : C_X10_marched_0_29 e I L Q := by
  have hC2 := hC
  have hk2 := hk
  obtain ⟨c0, c1, c2, c3, c4, c5, c6, c7, c8, cS, cD, cN, cA, cT, cM, cR, cF, cO, cH, cL⟩ := hC
  obtain ⟨o0, oT, oZ, oY, oD, o9, oN, o28, oB, oX, oE, oF, oA, oH, oU, oV⟩ := hk
  refine b_X10_marched_0_29 ?_
  have f0 : fr [2] [] I (va_up I 2 (va_cpy (I 10) (I 2) 0 0 512)) := fr_up (fr_refl _ _ _) rfl
  obtain ⟨s1, s2, s3⟩ := ff_sp (spj (t 1) (t 3) g) (c - 1)
  have ho : ∀ J, fr [2] [] I J → J 29 3 = nI c := fun J f => by rw [f.1 29 (by decide) (by decide)]; exact h3
  by_cases hc1 : c ≤ 1
  · have q1 := eq_true hc1
    have e3 := ho _ f0
    have h9 := hQ _ f0
    have h8 : mrs (t 1) (t 3) g c = c := by
      unfold mrs
      split
      · omega
      · rw [show c - 1 = 0 from by omega]
        show 0 + 1 = c
        omega
    rw [h8] at h9
    refine b_X10_marched_0_29_p16 ?_
    simp (disch := omega) only [pk_mul, nI_add, ksub, kdv, kd8, kd64, kd2, kd3, km8, km64, kt8, ke8, ke64, kcl, kin, kle, klt, keq, up_s, up_n, up_u, true_and, and_true, false_implies, true_implies, not_false_eq_true, not_true_eq_false, h3, q1]
    exact h9
  · have hm : mrs (t 1) (t 3) g c = ff (spj (t 1) (t 3) g) (c - 1) + 1 := if_neg (by omega)
    rw [hm] at hQ
    refine lp_up (n := ff (spj (t 1) (t 3) g) (c - 1)) (S := Nat → Nat → Int32) (T := fun j J => T_X10_marched_0_29_p16 e (nI (j + 1)) J L Q) (fun j J => fr [2] [] I J ∧ ∀ k, k < 512 → tB t k = true → J 2 k = nI (nmA (t 3) g j k)) ?_ ?_ 0 _ (Nat.zero_le _) ⟨f0, fun k hk5 hp => by show va_cpy (I 10) (I 2) 0 0 512 k = _; rw [cpy0 hk5]; exact cR k hk5 hp⟩
    · rintro j J hj ⟨i1, i2⟩ hnext
      have e3 := ho J i1
      have CJ := fr_CT i1 hC2 rfl
      have q1 : (c ≤ j + 1) = False := eq_false (by omega)
      have hns := s2 j hj
      have g0 := hg8 j (by omega)
      have g1 := hg8 (j + 1) (by omega)
      have e4 := CJ.2.2.2.2.2.2.2.2.2.1 (8 * g j + g (j + 1)) (by omega)
      have u4 := o9 (8 * g j + g (j + 1)) (by omega)
      have hst : ¬ t 1 (8 * g j + g (j + 1)) = 0 := fun h => by
        have := spj_t.mpr (Or.inl h : t 1 (8 * g j + g (j + 1)) = 0 ∨ (¬ j = 0 ∧ nmA (t 3) g j (64 * g (j - 1) + 8 * g j + g (j + 1)) = 0))
        rw [hns] at this; cases this
      have q2 : (t 1 (8 * g j + g (j + 1)) = 0) = False := eq_false hst
      have q3 : j + 1 - 1 = j := by omega
      refine b_X10_marched_0_29_p16 ?_
      simp (disch := omega) only [pk_mul, nI_add, ksub, kdv, kd8, kd64, kd2, kd3, km8, km64, kt8, ke8, ke64, kcl, kin, kle, klt, keq, up_s, up_n, up_u, true_and, and_true, false_implies, true_implies, not_false_eq_true, not_true_eq_false, e3, q1, q3]
      refine c_cAt_0 e3 hc (by omega) hg ?_
      refine c_cAt_0 e3 hc (by omega) hg ?_
      by_cases hj0 : j = 0
      · have q4 : (j + 1 ≤ 1) = True := eq_true (by omega)
        simp (disch := omega) only [pk_mul, nI_add, ksub, kdv, kd8, kd64, kd2, kd3, km8, km64, kt8, ke8, ke64, kcl, kin, kle, klt, keq, up_s, up_n, up_u, true_and, and_true, false_implies, true_implies, not_false_eq_true, not_true_eq_false, e4, q2, q4]
        refine hnext J ⟨i1, fun k hk5 hp => ?_⟩
        show J 2 k = nI ((if j = 0 then nmA (t 3) g j else _) k)
        rw [if_pos hj0]
        exact i2 k hk5 hp
      · have q4 : (j + 1 ≤ 1) = False := eq_false (by omega)
        have q5 : j + 1 - 2 = j - 1 := by omega
        have g2 := hg8 (j - 1) (by omega)
        have hst2 : ¬ t 1 (8 * g (j - 1) + g j) = 0 := fun h => by
          have h7 := s2 (j - 1) (by omega)
          have := spj_t.mpr (Or.inl (by rw [show j - 1 + 1 = j from by omega]; exact h) : t 1 (8 * g (j - 1) + g (j - 1 + 1)) = 0 ∨ (¬ (j - 1) = 0 ∧ nmA (t 3) g (j - 1) (64 * g (j - 1 - 1) + 8 * g (j - 1) + g (j - 1 + 1)) = 0))
          rw [h7] at this; cases this
        have hT : tB t (64 * g (j - 1) + 8 * g j + g (j + 1)) = true := tB_x g2 g0 g1 (by omega) (by omega)
        have e2 := i2 (64 * g (j - 1) + 8 * g j + g (j + 1)) (by omega) hT
        have hb := nmA_b (g := g) (tok_nw hk2) j (64 * g (j - 1) + 8 * g j + g (j + 1)) (by omega)
        have hnz : ¬ nmA (t 3) g j (64 * g (j - 1) + 8 * g j + g (j + 1)) = 0 := fun h => by
          have := spj_t.mpr (Or.inr ⟨hj0, h⟩ : t 1 (8 * g j + g (j + 1)) = 0 ∨ (¬ j = 0 ∧ nmA (t 3) g j (64 * g (j - 1) + 8 * g j + g (j + 1)) = 0))
          rw [hns] at this; cases this
        have q6 := eq_false hnz
        simp (disch := omega) only [pk_mul, nI_add, ksub, kdv, kd8, kd64, kd2, kd3, km8, km64, kt8, ke8, ke64, kcl, kin, kle, klt, keq, up_s, up_n, up_u, true_and, and_true, false_implies, true_implies, not_false_eq_true, not_true_eq_false, e4, q2, q4, q5]
        refine c_cAt_0 e3 hc (by omega) hg ?_
        simp (disch := omega) only [pk_mul, nI_add, ksub, kdv, kd8, kd64, kd2, kd3, km8, km64, kt8, ke8, ke64, kcl, kin, kle, klt, keq, up_s, up_n, up_u, true_and, and_true, false_implies, true_implies, not_false_eq_true, not_true_eq_false, e2, q6]
        refine hnext _ ⟨fr_up i1 rfl, fun k hk5 hp => ?_⟩
        show va_up (J 2) (64 * g (j - 1) + 8 * g j + g (j + 1)) (nI (nmA (t 3) g j (64 * g (j - 1) + 8 * g j + g (j + 1)) - 1)) k = nI ((if j = 0 then nmA (t 3) g j else va_up (nmA (t 3) g j) (64 * g (j - 1) + 8 * g j + g (j + 1)) (nmA (t 3) g j (64 * g (j - 1) + 8 * g j + g (j + 1)) - 1)) k)
        rw [if_neg hj0]
        by_cases he : k = 64 * g (j - 1) + 8 * g j + g (j + 1)
        · rw [he, up_s, up_s]
        · rw [up_n he, up_n he]; exact i2 k hk5 hp
    · rintro J ⟨i1, i2⟩
      have e3 := ho J i1
      have CJ := fr_CT i1 hC2 rfl
      generalize ff (spj (t 1) (t 3) g) (c - 1) = j at s1 s2 s3 hQ i2
      by_cases hj : j < c - 1
      · have hsp := spj_t.mp (s3 hj)
        have q1 : (c ≤ j + 1) = False := eq_false (by omega)
        have g0 := hg8 j (by omega)
        have g1 := hg8 (j + 1) (by omega)
        have e4 := CJ.2.2.2.2.2.2.2.2.2.1 (8 * g j + g (j + 1)) (by omega)
        have u4 := o9 (8 * g j + g (j + 1)) (by omega)
        have q3 : j + 1 - 1 = j := by omega
        refine b_X10_marched_0_29_p16 ?_
        simp (disch := omega) only [pk_mul, nI_add, ksub, kdv, kd8, kd64, kd2, kd3, km8, km64, kt8, ke8, ke64, kcl, kin, kle, klt, keq, up_s, up_n, up_u, true_and, and_true, false_implies, true_implies, not_false_eq_true, not_true_eq_false, e3, q1, q3]
        refine c_cAt_0 e3 hc (by omega) hg ?_
        refine c_cAt_0 e3 hc (by omega) hg ?_
        by_cases hst : t 1 (8 * g j + g (j + 1)) = 0
        · have q2 := eq_true hst
          simp (disch := omega) only [pk_mul, nI_add, ksub, kdv, kd8, kd64, kd2, kd3, km8, km64, kt8, ke8, ke64, kcl, kin, kle, klt, keq, up_s, up_n, up_u, true_and, and_true, false_implies, true_implies, not_false_eq_true, not_true_eq_false, e4, q2]
          exact hQ J i1
        · have q2 := eq_false hst
          rcases hsp with h | ⟨hj0, hz⟩
          · exact absurd h hst
          · have q4 : (j + 1 ≤ 1) = False := eq_false (by omega)
            have q5 : j + 1 - 2 = j - 1 := by omega
            have g2 := hg8 (j - 1) (by omega)
            have hst2 : ¬ t 1 (8 * g (j - 1) + g j) = 0 := fun h => by
              have h7 := s2 (j - 1) (by omega)
              have := spj_t.mpr (Or.inl (by rw [show j - 1 + 1 = j from by omega]; exact h) : t 1 (8 * g (j - 1) + g (j - 1 + 1)) = 0 ∨ (¬ (j - 1) = 0 ∧ nmA (t 3) g (j - 1) (64 * g (j - 1 - 1) + 8 * g (j - 1) + g (j - 1 + 1)) = 0))
              rw [h7] at this; cases this
            have hT : tB t (64 * g (j - 1) + 8 * g j + g (j + 1)) = true := tB_x g2 g0 g1 (by omega) (by omega)
            have e2 := i2 (64 * g (j - 1) + 8 * g j + g (j + 1)) (by omega) hT
            rw [hz] at e2
            have q6 : ((0 : Nat) = 0) = True := eq_true rfl
            simp (disch := omega) only [pk_mul, nI_add, ksub, kdv, kd8, kd64, kd2, kd3, km8, km64, kt8, ke8, ke64, kcl, kin, kle, klt, keq, up_s, up_n, up_u, true_and, and_true, false_implies, true_implies, not_false_eq_true, not_true_eq_false, e4, q2, q4, q5]
            refine c_cAt_0 e3 hc (by omega) hg ?_
            simp (disch := omega) only [pk_mul, nI_add, ksub, kdv, kd8, kd64, kd2, kd3, km8, km64, kt8, ke8, ke64, kcl, kin, kle, klt, keq, up_s, up_n, up_u, true_and, and_true, false_implies, true_implies, not_false_eq_true, not_true_eq_false, e2, q6]
            exact hQ J i1
      · have q1 : (c ≤ j + 1) = True := eq_true (by omega)
        refine b_X10_marched_0_29_p16 ?_
        simp (disch := omega) only [pk_mul, nI_add, ksub, kdv, kd8, kd64, kd2, kd3, km8, km64, kt8, ke8, ke64, kcl, kin, kle, klt, keq, up_s, up_n, up_u, true_and, and_true, false_implies, true_implies, not_false_eq_true, not_true_eq_false, e3, q1]
        have h9 := hQ J i1
        rw [show j + 1 = c from by omega] at h9
        exact h9
theorem c_areC_1 {e : am_V} {I : Nat → Nat → Int32} {L : Nat → Nat → Int64} {Q : Int32 → (Nat → Nat → Int32) → Prop} {n c : Nat} (h3 : I 31 3 = nI c) (hc : c ≤ 60) (c0 : I 3 0 = nI n) (h1 : (∀ k, k < c → gdc n (L 32 k) = true) → Q (nI 1) I) (h0 : (¬ ∀ k, k < c → gdc n (L 32 k) = true) → Q (nI 0) I) : C_X2_areCrossingsOf_31_3 e I L Q := by
  refine b_X2_areCrossingsOf_31_3 ?_
  refine lp_up (n := c) (S := Unit) (T := fun k _ => T_X2_areCrossingsOf_31_3_p2 e (nI k) I L Q) (fun k _ => ∀ k', k' < k → gdc n (L 32 k') = true) ?_ ?_ 0 () (Nat.zero_le _) (fun k' h => absurd h (Nat.not_lt_zero _))
  · intro k _ hk hi hnext
    have q1 : (c ≤ k) = False := eq_false (by omega)
    refine b_X2_areCrossingsOf_31_3_p2 ?_
    simp (disch := omega) only [pk_mul, nI_add, ksub, kdv, kd8, kd64, kd2, kd3, km8, km64, kt8, ke8, ke64, kcl, kin, kle, klt, keq, up_s, up_n, up_u, true_and, and_true, false_implies, true_implies, not_false_eq_true, not_true_eq_false, h3, q1, c0]
    refine ⟨fun hl => h0 (fun h => ?_), fun hl => ⟨fun hl2 => hnext () (fun k' hk' => ?_), fun hl2 => h0 (fun h => ?_)⟩⟩
    · exact (gdc_i.mp (h k hk)).1 hl
    · by_cases he : k' = k
      · rw [he]; exact gdc_i.mpr ⟨hl, hl2⟩
      · exact hi k' (by omega)
    · exact hl2 (gdc_i.mp (h k hk)).2
  · intro _ hi
    have q1 : (c ≤ c) = True := eq_true (Nat.le_refl _)
    refine b_X2_areCrossingsOf_31_3_p2 ?_
    simp (disch := omega) only [pk_mul, nI_add, ksub, kdv, kd8, kd64, kd2, kd3, km8, km64, kt8, ke8, ke64, kcl, kin, kle, klt, keq, up_s, up_n, up_u, true_and, and_true, false_implies, true_implies, not_false_eq_true, not_true_eq_false, h3, q1]
    exact h1 hi
theorem c_cAt_1 {e : am_V} {I : Nat → Nat → Int32} {L : Nat → Nat → Int64} {Q : Int32 → (Nat → Nat → Int32) → Prop} {c i : Nat} {g : Nat → Nat} (h3 : I 31 3 = nI c) (hc : c ≤ 60) (hi : i < c) (hg : ∀ k, k < c → L 32 k = lN (g k)) (hQ : Q (nI (g i)) I) : C_X2_crossingAt_31 e (nI i) I L Q := by
  have q1 : (c ≤ i) = False := eq_false (by omega)
  have e1 := hg i hi
  refine b_X2_crossingAt_31 ?_
  simp (disch := omega) only [pk_mul, nI_add, ksub, kdv, kd8, kd64, kd2, kd3, km8, km64, kt8, ke8, ke64, kcl, kin, kle, klt, keq, up_s, up_n, up_u, true_and, and_true, false_implies, true_implies, not_false_eq_true, not_true_eq_false, h3, q1, e1, knl, lN_i]
  exact hQ
theorem c_marched_1 {e : am_V} {I : Nat → Nat → Int32} {L : Nat → Nat → Int64} {Q : Int32 → (Nat → Nat → Int32) → Prop} {t : tw} {c : Nat} {g : Nat → Nat} (hC : CT t I) (hk : tok t) (h3 : I 31 3 = nI c) (hc : c ≤ 60) (hg : ∀ k, k < c → L 32 k = lN (g k)) (hg8 : ∀ k, k < c → g k < 8) (hQ : ∀ J, fr [2] [] I J → Q (nI (mrs (t 1) (t 3) g c)) J) : C_X10_marched_0_31 e I L Q := by
  have hC2 := hC
  have hk2 := hk
  obtain ⟨c0, c1, c2, c3, c4, c5, c6, c7, c8, cS, cD, cN, cA, cT, cM, cR, cF, cO, cH, cL⟩ := hC
  obtain ⟨o0, oT, oZ, oY, oD, o9, oN, o28, oB, oX, oE, oF, oA, oH, oU, oV⟩ := hk
  refine b_X10_marched_0_31 ?_
  have f0 : fr [2] [] I (va_up I 2 (va_cpy (I 10) (I 2) 0 0 512)) := fr_up (fr_refl _ _ _) rfl
  obtain ⟨s1, s2, s3⟩ := ff_sp (spj (t 1) (t 3) g) (c - 1)
  have ho : ∀ J, fr [2] [] I J → J 31 3 = nI c := fun J f => by rw [f.1 31 (by decide) (by decide)]; exact h3
  by_cases hc1 : c ≤ 1
  · have q1 := eq_true hc1
    have e3 := ho _ f0
    have h9 := hQ _ f0
    have h8 : mrs (t 1) (t 3) g c = c := by
      unfold mrs
      split
      · omega
      · rw [show c - 1 = 0 from by omega]
        show 0 + 1 = c
        omega
    rw [h8] at h9
    refine b_X10_marched_0_31_p16 ?_
    simp (disch := omega) only [pk_mul, nI_add, ksub, kdv, kd8, kd64, kd2, kd3, km8, km64, kt8, ke8, ke64, kcl, kin, kle, klt, keq, up_s, up_n, up_u, true_and, and_true, false_implies, true_implies, not_false_eq_true, not_true_eq_false, h3, q1]
    exact h9
  · have hm : mrs (t 1) (t 3) g c = ff (spj (t 1) (t 3) g) (c - 1) + 1 := if_neg (by omega)
    rw [hm] at hQ
    refine lp_up (n := ff (spj (t 1) (t 3) g) (c - 1)) (S := Nat → Nat → Int32) (T := fun j J => T_X10_marched_0_31_p16 e (nI (j + 1)) J L Q) (fun j J => fr [2] [] I J ∧ ∀ k, k < 512 → tB t k = true → J 2 k = nI (nmA (t 3) g j k)) ?_ ?_ 0 _ (Nat.zero_le _) ⟨f0, fun k hk5 hp => by show va_cpy (I 10) (I 2) 0 0 512 k = _; rw [cpy0 hk5]; exact cR k hk5 hp⟩
    · rintro j J hj ⟨i1, i2⟩ hnext
      have e3 := ho J i1
      have CJ := fr_CT i1 hC2 rfl
      have q1 : (c ≤ j + 1) = False := eq_false (by omega)
      have hns := s2 j hj
      have g0 := hg8 j (by omega)
      have g1 := hg8 (j + 1) (by omega)
      have e4 := CJ.2.2.2.2.2.2.2.2.2.1 (8 * g j + g (j + 1)) (by omega)
      have u4 := o9 (8 * g j + g (j + 1)) (by omega)
      have hst : ¬ t 1 (8 * g j + g (j + 1)) = 0 := fun h => by
        have := spj_t.mpr (Or.inl h : t 1 (8 * g j + g (j + 1)) = 0 ∨ (¬ j = 0 ∧ nmA (t 3) g j (64 * g (j - 1) + 8 * g j + g (j + 1)) = 0))
        rw [hns] at this; cases this
      have q2 : (t 1 (8 * g j + g (j + 1)) = 0) = False := eq_false hst
      have q3 : j + 1 - 1 = j := by omega
      refine b_X10_marched_0_31_p16 ?_
      simp (disch := omega) only [pk_mul, nI_add, ksub, kdv, kd8, kd64, kd2, kd3, km8, km64, kt8, ke8, ke64, kcl, kin, kle, klt, keq, up_s, up_n, up_u, true_and, and_true, false_implies, true_implies, not_false_eq_true, not_true_eq_false, e3, q1, q3]
      refine c_cAt_1 e3 hc (by omega) hg ?_
      refine c_cAt_1 e3 hc (by omega) hg ?_
      by_cases hj0 : j = 0
      · have q4 : (j + 1 ≤ 1) = True := eq_true (by omega)
        simp (disch := omega) only [pk_mul, nI_add, ksub, kdv, kd8, kd64, kd2, kd3, km8, km64, kt8, ke8, ke64, kcl, kin, kle, klt, keq, up_s, up_n, up_u, true_and, and_true, false_implies, true_implies, not_false_eq_true, not_true_eq_false, e4, q2, q4]
        refine hnext J ⟨i1, fun k hk5 hp => ?_⟩
        show J 2 k = nI ((if j = 0 then nmA (t 3) g j else _) k)
        rw [if_pos hj0]
        exact i2 k hk5 hp
      · have q4 : (j + 1 ≤ 1) = False := eq_false (by omega)
        have q5 : j + 1 - 2 = j - 1 := by omega
        have g2 := hg8 (j - 1) (by omega)
        have hst2 : ¬ t 1 (8 * g (j - 1) + g j) = 0 := fun h => by
          have h7 := s2 (j - 1) (by omega)
          have := spj_t.mpr (Or.inl (by rw [show j - 1 + 1 = j from by omega]; exact h) : t 1 (8 * g (j - 1) + g (j - 1 + 1)) = 0 ∨ (¬ (j - 1) = 0 ∧ nmA (t 3) g (j - 1) (64 * g (j - 1 - 1) + 8 * g (j - 1) + g (j - 1 + 1)) = 0))
          rw [h7] at this; cases this
        have hT : tB t (64 * g (j - 1) + 8 * g j + g (j + 1)) = true := tB_x g2 g0 g1 (by omega) (by omega)
        have e2 := i2 (64 * g (j - 1) + 8 * g j + g (j + 1)) (by omega) hT
        have hb := nmA_b (g := g) (tok_nw hk2) j (64 * g (j - 1) + 8 * g j + g (j + 1)) (by omega)
        have hnz : ¬ nmA (t 3) g j (64 * g (j - 1) + 8 * g j + g (j + 1)) = 0 := fun h => by
          have := spj_t.mpr (Or.inr ⟨hj0, h⟩ : t 1 (8 * g j + g (j + 1)) = 0 ∨ (¬ j = 0 ∧ nmA (t 3) g j (64 * g (j - 1) + 8 * g j + g (j + 1)) = 0))
          rw [hns] at this; cases this
        have q6 := eq_false hnz
        simp (disch := omega) only [pk_mul, nI_add, ksub, kdv, kd8, kd64, kd2, kd3, km8, km64, kt8, ke8, ke64, kcl, kin, kle, klt, keq, up_s, up_n, up_u, true_and, and_true, false_implies, true_implies, not_false_eq_true, not_true_eq_false, e4, q2, q4, q5]
        refine c_cAt_1 e3 hc (by omega) hg ?_
        simp (disch := omega) only [pk_mul, nI_add, ksub, kdv, kd8, kd64, kd2, kd3, km8, km64, kt8, ke8, ke64, kcl, kin, kle, klt, keq, up_s, up_n, up_u, true_and, and_true, false_implies, true_implies, not_false_eq_true, not_true_eq_false, e2, q6]
        refine hnext _ ⟨fr_up i1 rfl, fun k hk5 hp => ?_⟩
        show va_up (J 2) (64 * g (j - 1) + 8 * g j + g (j + 1)) (nI (nmA (t 3) g j (64 * g (j - 1) + 8 * g j + g (j + 1)) - 1)) k = nI ((if j = 0 then nmA (t 3) g j else va_up (nmA (t 3) g j) (64 * g (j - 1) + 8 * g j + g (j + 1)) (nmA (t 3) g j (64 * g (j - 1) + 8 * g j + g (j + 1)) - 1)) k)
        rw [if_neg hj0]
        by_cases he : k = 64 * g (j - 1) + 8 * g j + g (j + 1)
        · rw [he, up_s, up_s]
        · rw [up_n he, up_n he]; exact i2 k hk5 hp
    · rintro J ⟨i1, i2⟩
      have e3 := ho J i1
      have CJ := fr_CT i1 hC2 rfl
      generalize ff (spj (t 1) (t 3) g) (c - 1) = j at s1 s2 s3 hQ i2
      by_cases hj : j < c - 1
      · have hsp := spj_t.mp (s3 hj)
        have q1 : (c ≤ j + 1) = False := eq_false (by omega)
        have g0 := hg8 j (by omega)
        have g1 := hg8 (j + 1) (by omega)
        have e4 := CJ.2.2.2.2.2.2.2.2.2.1 (8 * g j + g (j + 1)) (by omega)
        have u4 := o9 (8 * g j + g (j + 1)) (by omega)
        have q3 : j + 1 - 1 = j := by omega
        refine b_X10_marched_0_31_p16 ?_
        simp (disch := omega) only [pk_mul, nI_add, ksub, kdv, kd8, kd64, kd2, kd3, km8, km64, kt8, ke8, ke64, kcl, kin, kle, klt, keq, up_s, up_n, up_u, true_and, and_true, false_implies, true_implies, not_false_eq_true, not_true_eq_false, e3, q1, q3]
        refine c_cAt_1 e3 hc (by omega) hg ?_
        refine c_cAt_1 e3 hc (by omega) hg ?_
        by_cases hst : t 1 (8 * g j + g (j + 1)) = 0
        · have q2 := eq_true hst
          simp (disch := omega) only [pk_mul, nI_add, ksub, kdv, kd8, kd64, kd2, kd3, km8, km64, kt8, ke8, ke64, kcl, kin, kle, klt, keq, up_s, up_n, up_u, true_and, and_true, false_implies, true_implies, not_false_eq_true, not_true_eq_false, e4, q2]
          exact hQ J i1
        · have q2 := eq_false hst
          rcases hsp with h | ⟨hj0, hz⟩
          · exact absurd h hst
          · have q4 : (j + 1 ≤ 1) = False := eq_false (by omega)
            have q5 : j + 1 - 2 = j - 1 := by omega
            have g2 := hg8 (j - 1) (by omega)
            have hst2 : ¬ t 1 (8 * g (j - 1) + g j) = 0 := fun h => by
              have h7 := s2 (j - 1) (by omega)
              have := spj_t.mpr (Or.inl (by rw [show j - 1 + 1 = j from by omega]; exact h) : t 1 (8 * g (j - 1) + g (j - 1 + 1)) = 0 ∨ (¬ (j - 1) = 0 ∧ nmA (t 3) g (j - 1) (64 * g (j - 1 - 1) + 8 * g (j - 1) + g (j - 1 + 1)) = 0))
              rw [h7] at this; cases this
            have hT : tB t (64 * g (j - 1) + 8 * g j + g (j + 1)) = true := tB_x g2 g0 g1 (by omega) (by omega)
            have e2 := i2 (64 * g (j - 1) + 8 * g j + g (j + 1)) (by omega) hT
            rw [hz] at e2
            have q6 : ((0 : Nat) = 0) = True := eq_true rfl
            simp (disch := omega) only [pk_mul, nI_add, ksub, kdv, kd8, kd64, kd2, kd3, km8, km64, kt8, ke8, ke64, kcl, kin, kle, klt, keq, up_s, up_n, up_u, true_and, and_true, false_implies, true_implies, not_false_eq_true, not_true_eq_false, e4, q2, q4, q5]
            refine c_cAt_1 e3 hc (by omega) hg ?_
            simp (disch := omega) only [pk_mul, nI_add, ksub, kdv, kd8, kd64, kd2, kd3, km8, km64, kt8, ke8, ke64, kcl, kin, kle, klt, keq, up_s, up_n, up_u, true_and, and_true, false_implies, true_implies, not_false_eq_true, not_true_eq_false, e2, q6]
            exact hQ J i1
      · have q1 : (c ≤ j + 1) = True := eq_true (by omega)
        refine b_X10_marched_0_31_p16 ?_
        simp (disch := omega) only [pk_mul, nI_add, ksub, kdv, kd8, kd64, kd2, kd3, km8, km64, kt8, ke8, ke64, kcl, kin, kle, klt, keq, up_s, up_n, up_u, true_and, and_true, false_implies, true_implies, not_false_eq_true, not_true_eq_false, e3, q1]
        have h9 := hQ J i1
        rw [show j + 1 = c from by omega] at h9
        exact h9
theorem c_areC_2 {e : am_V} {I : Nat → Nat → Int32} {L : Nat → Nat → Int64} {Q : Int32 → (Nat → Nat → Int32) → Prop} {n c : Nat} (h3 : I 33 3 = nI c) (hc : c ≤ 60) (c0 : I 3 0 = nI n) (h1 : (∀ k, k < c → gdc n (L 34 k) = true) → Q (nI 1) I) (h0 : (¬ ∀ k, k < c → gdc n (L 34 k) = true) → Q (nI 0) I) : C_X2_areCrossingsOf_33_3 e I L Q := by
  refine b_X2_areCrossingsOf_33_3 ?_
  refine lp_up (n := c) (S := Unit) (T := fun k _ => T_X2_areCrossingsOf_33_3_p2 e (nI k) I L Q) (fun k _ => ∀ k', k' < k → gdc n (L 34 k') = true) ?_ ?_ 0 () (Nat.zero_le _) (fun k' h => absurd h (Nat.not_lt_zero _))
  · intro k _ hk hi hnext
    have q1 : (c ≤ k) = False := eq_false (by omega)
    refine b_X2_areCrossingsOf_33_3_p2 ?_
    simp (disch := omega) only [pk_mul, nI_add, ksub, kdv, kd8, kd64, kd2, kd3, km8, km64, kt8, ke8, ke64, kcl, kin, kle, klt, keq, up_s, up_n, up_u, true_and, and_true, false_implies, true_implies, not_false_eq_true, not_true_eq_false, h3, q1, c0]
    refine ⟨fun hl => h0 (fun h => ?_), fun hl => ⟨fun hl2 => hnext () (fun k' hk' => ?_), fun hl2 => h0 (fun h => ?_)⟩⟩
    · exact (gdc_i.mp (h k hk)).1 hl
    · by_cases he : k' = k
      · rw [he]; exact gdc_i.mpr ⟨hl, hl2⟩
      · exact hi k' (by omega)
    · exact hl2 (gdc_i.mp (h k hk)).2
  · intro _ hi
    have q1 : (c ≤ c) = True := eq_true (Nat.le_refl _)
    refine b_X2_areCrossingsOf_33_3_p2 ?_
    simp (disch := omega) only [pk_mul, nI_add, ksub, kdv, kd8, kd64, kd2, kd3, km8, km64, kt8, ke8, ke64, kcl, kin, kle, klt, keq, up_s, up_n, up_u, true_and, and_true, false_implies, true_implies, not_false_eq_true, not_true_eq_false, h3, q1]
    exact h1 hi
theorem c_cAt_2 {e : am_V} {I : Nat → Nat → Int32} {L : Nat → Nat → Int64} {Q : Int32 → (Nat → Nat → Int32) → Prop} {c i : Nat} {g : Nat → Nat} (h3 : I 33 3 = nI c) (hc : c ≤ 60) (hi : i < c) (hg : ∀ k, k < c → L 34 k = lN (g k)) (hQ : Q (nI (g i)) I) : C_X2_crossingAt_33 e (nI i) I L Q := by
  have q1 : (c ≤ i) = False := eq_false (by omega)
  have e1 := hg i hi
  refine b_X2_crossingAt_33 ?_
  simp (disch := omega) only [pk_mul, nI_add, ksub, kdv, kd8, kd64, kd2, kd3, km8, km64, kt8, ke8, ke64, kcl, kin, kle, klt, keq, up_s, up_n, up_u, true_and, and_true, false_implies, true_implies, not_false_eq_true, not_true_eq_false, h3, q1, e1, knl, lN_i]
  exact hQ
theorem c_marched_2 {e : am_V} {I : Nat → Nat → Int32} {L : Nat → Nat → Int64} {Q : Int32 → (Nat → Nat → Int32) → Prop} {t : tw} {c : Nat} {g : Nat → Nat} (hC : CT t I) (hk : tok t) (h3 : I 33 3 = nI c) (hc : c ≤ 60) (hg : ∀ k, k < c → L 34 k = lN (g k)) (hg8 : ∀ k, k < c → g k < 8) (hQ : ∀ J, fr [2] [] I J → Q (nI (mrs (t 1) (t 3) g c)) J) : C_X10_marched_0_33 e I L Q := by
  have hC2 := hC
  have hk2 := hk
  obtain ⟨c0, c1, c2, c3, c4, c5, c6, c7, c8, cS, cD, cN, cA, cT, cM, cR, cF, cO, cH, cL⟩ := hC
  obtain ⟨o0, oT, oZ, oY, oD, o9, oN, o28, oB, oX, oE, oF, oA, oH, oU, oV⟩ := hk
  refine b_X10_marched_0_33 ?_
  have f0 : fr [2] [] I (va_up I 2 (va_cpy (I 10) (I 2) 0 0 512)) := fr_up (fr_refl _ _ _) rfl
  obtain ⟨s1, s2, s3⟩ := ff_sp (spj (t 1) (t 3) g) (c - 1)
  have ho : ∀ J, fr [2] [] I J → J 33 3 = nI c := fun J f => by rw [f.1 33 (by decide) (by decide)]; exact h3
  by_cases hc1 : c ≤ 1
  · have q1 := eq_true hc1
    have e3 := ho _ f0
    have h9 := hQ _ f0
    have h8 : mrs (t 1) (t 3) g c = c := by
      unfold mrs
      split
      · omega
      · rw [show c - 1 = 0 from by omega]
        show 0 + 1 = c
        omega
    rw [h8] at h9
    refine b_X10_marched_0_33_p16 ?_
    simp (disch := omega) only [pk_mul, nI_add, ksub, kdv, kd8, kd64, kd2, kd3, km8, km64, kt8, ke8, ke64, kcl, kin, kle, klt, keq, up_s, up_n, up_u, true_and, and_true, false_implies, true_implies, not_false_eq_true, not_true_eq_false, h3, q1]
    exact h9
  · have hm : mrs (t 1) (t 3) g c = ff (spj (t 1) (t 3) g) (c - 1) + 1 := if_neg (by omega)
    rw [hm] at hQ
    refine lp_up (n := ff (spj (t 1) (t 3) g) (c - 1)) (S := Nat → Nat → Int32) (T := fun j J => T_X10_marched_0_33_p16 e (nI (j + 1)) J L Q) (fun j J => fr [2] [] I J ∧ ∀ k, k < 512 → tB t k = true → J 2 k = nI (nmA (t 3) g j k)) ?_ ?_ 0 _ (Nat.zero_le _) ⟨f0, fun k hk5 hp => by show va_cpy (I 10) (I 2) 0 0 512 k = _; rw [cpy0 hk5]; exact cR k hk5 hp⟩
    · rintro j J hj ⟨i1, i2⟩ hnext
      have e3 := ho J i1
      have CJ := fr_CT i1 hC2 rfl
      have q1 : (c ≤ j + 1) = False := eq_false (by omega)
      have hns := s2 j hj
      have g0 := hg8 j (by omega)
      have g1 := hg8 (j + 1) (by omega)
      have e4 := CJ.2.2.2.2.2.2.2.2.2.1 (8 * g j + g (j + 1)) (by omega)
      have u4 := o9 (8 * g j + g (j + 1)) (by omega)
      have hst : ¬ t 1 (8 * g j + g (j + 1)) = 0 := fun h => by
        have := spj_t.mpr (Or.inl h : t 1 (8 * g j + g (j + 1)) = 0 ∨ (¬ j = 0 ∧ nmA (t 3) g j (64 * g (j - 1) + 8 * g j + g (j + 1)) = 0))
        rw [hns] at this; cases this
      have q2 : (t 1 (8 * g j + g (j + 1)) = 0) = False := eq_false hst
      have q3 : j + 1 - 1 = j := by omega
      refine b_X10_marched_0_33_p16 ?_
      simp (disch := omega) only [pk_mul, nI_add, ksub, kdv, kd8, kd64, kd2, kd3, km8, km64, kt8, ke8, ke64, kcl, kin, kle, klt, keq, up_s, up_n, up_u, true_and, and_true, false_implies, true_implies, not_false_eq_true, not_true_eq_false, e3, q1, q3]
      refine c_cAt_2 e3 hc (by omega) hg ?_
      refine c_cAt_2 e3 hc (by omega) hg ?_
      by_cases hj0 : j = 0
      · have q4 : (j + 1 ≤ 1) = True := eq_true (by omega)
        simp (disch := omega) only [pk_mul, nI_add, ksub, kdv, kd8, kd64, kd2, kd3, km8, km64, kt8, ke8, ke64, kcl, kin, kle, klt, keq, up_s, up_n, up_u, true_and, and_true, false_implies, true_implies, not_false_eq_true, not_true_eq_false, e4, q2, q4]
        refine hnext J ⟨i1, fun k hk5 hp => ?_⟩
        show J 2 k = nI ((if j = 0 then nmA (t 3) g j else _) k)
        rw [if_pos hj0]
        exact i2 k hk5 hp
      · have q4 : (j + 1 ≤ 1) = False := eq_false (by omega)
        have q5 : j + 1 - 2 = j - 1 := by omega
        have g2 := hg8 (j - 1) (by omega)
        have hst2 : ¬ t 1 (8 * g (j - 1) + g j) = 0 := fun h => by
          have h7 := s2 (j - 1) (by omega)
          have := spj_t.mpr (Or.inl (by rw [show j - 1 + 1 = j from by omega]; exact h) : t 1 (8 * g (j - 1) + g (j - 1 + 1)) = 0 ∨ (¬ (j - 1) = 0 ∧ nmA (t 3) g (j - 1) (64 * g (j - 1 - 1) + 8 * g (j - 1) + g (j - 1 + 1)) = 0))
          rw [h7] at this; cases this
        have hT : tB t (64 * g (j - 1) + 8 * g j + g (j + 1)) = true := tB_x g2 g0 g1 (by omega) (by omega)
        have e2 := i2 (64 * g (j - 1) + 8 * g j + g (j + 1)) (by omega) hT
        have hb := nmA_b (g := g) (tok_nw hk2) j (64 * g (j - 1) + 8 * g j + g (j + 1)) (by omega)
        have hnz : ¬ nmA (t 3) g j (64 * g (j - 1) + 8 * g j + g (j + 1)) = 0 := fun h => by
          have := spj_t.mpr (Or.inr ⟨hj0, h⟩ : t 1 (8 * g j + g (j + 1)) = 0 ∨ (¬ j = 0 ∧ nmA (t 3) g j (64 * g (j - 1) + 8 * g j + g (j + 1)) = 0))
          rw [hns] at this; cases this
        have q6 := eq_false hnz
        simp (disch := omega) only [pk_mul, nI_add, ksub, kdv, kd8, kd64, kd2, kd3, km8, km64, kt8, ke8, ke64, kcl, kin, kle, klt, keq, up_s, up_n, up_u, true_and, and_true, false_implies, true_implies, not_false_eq_true, not_true_eq_false, e4, q2, q4, q5]
        refine c_cAt_2 e3 hc (by omega) hg ?_
        simp (disch := omega) only [pk_mul, nI_add, ksub, kdv, kd8, kd64, kd2, kd3, km8, km64, kt8, ke8, ke64, kcl, kin, kle, klt, keq, up_s, up_n, up_u, true_and, and_true, false_implies, true_implies, not_false_eq_true, not_true_eq_false, e2, q6]
        refine hnext _ ⟨fr_up i1 rfl, fun k hk5 hp => ?_⟩
        show va_up (J 2) (64 * g (j - 1) + 8 * g j + g (j + 1)) (nI (nmA (t 3) g j (64 * g (j - 1) + 8 * g j + g (j + 1)) - 1)) k = nI ((if j = 0 then nmA (t 3) g j else va_up (nmA (t 3) g j) (64 * g (j - 1) + 8 * g j + g (j + 1)) (nmA (t 3) g j (64 * g (j - 1) + 8 * g j + g (j + 1)) - 1)) k)
        rw [if_neg hj0]
        by_cases he : k = 64 * g (j - 1) + 8 * g j + g (j + 1)
        · rw [he, up_s, up_s]
        · rw [up_n he, up_n he]; exact i2 k hk5 hp
    · rintro J ⟨i1, i2⟩
      have e3 := ho J i1
      have CJ := fr_CT i1 hC2 rfl
      generalize ff (spj (t 1) (t 3) g) (c - 1) = j at s1 s2 s3 hQ i2
      by_cases hj : j < c - 1
      · have hsp := spj_t.mp (s3 hj)
        have q1 : (c ≤ j + 1) = False := eq_false (by omega)
        have g0 := hg8 j (by omega)
        have g1 := hg8 (j + 1) (by omega)
        have e4 := CJ.2.2.2.2.2.2.2.2.2.1 (8 * g j + g (j + 1)) (by omega)
        have u4 := o9 (8 * g j + g (j + 1)) (by omega)
        have q3 : j + 1 - 1 = j := by omega
        refine b_X10_marched_0_33_p16 ?_
        simp (disch := omega) only [pk_mul, nI_add, ksub, kdv, kd8, kd64, kd2, kd3, km8, km64, kt8, ke8, ke64, kcl, kin, kle, klt, keq, up_s, up_n, up_u, true_and, and_true, false_implies, true_implies, not_false_eq_true, not_true_eq_false, e3, q1, q3]
        refine c_cAt_2 e3 hc (by omega) hg ?_
        refine c_cAt_2 e3 hc (by omega) hg ?_
        by_cases hst : t 1 (8 * g j + g (j + 1)) = 0
        · have q2 := eq_true hst
          simp (disch := omega) only [pk_mul, nI_add, ksub, kdv, kd8, kd64, kd2, kd3, km8, km64, kt8, ke8, ke64, kcl, kin, kle, klt, keq, up_s, up_n, up_u, true_and, and_true, false_implies, true_implies, not_false_eq_true, not_true_eq_false, e4, q2]
          exact hQ J i1
        · have q2 := eq_false hst
          rcases hsp with h | ⟨hj0, hz⟩
          · exact absurd h hst
          · have q4 : (j + 1 ≤ 1) = False := eq_false (by omega)
            have q5 : j + 1 - 2 = j - 1 := by omega
            have g2 := hg8 (j - 1) (by omega)
            have hst2 : ¬ t 1 (8 * g (j - 1) + g j) = 0 := fun h => by
              have h7 := s2 (j - 1) (by omega)
              have := spj_t.mpr (Or.inl (by rw [show j - 1 + 1 = j from by omega]; exact h) : t 1 (8 * g (j - 1) + g (j - 1 + 1)) = 0 ∨ (¬ (j - 1) = 0 ∧ nmA (t 3) g (j - 1) (64 * g (j - 1 - 1) + 8 * g (j - 1) + g (j - 1 + 1)) = 0))
              rw [h7] at this; cases this
            have hT : tB t (64 * g (j - 1) + 8 * g j + g (j + 1)) = true := tB_x g2 g0 g1 (by omega) (by omega)
            have e2 := i2 (64 * g (j - 1) + 8 * g j + g (j + 1)) (by omega) hT
            rw [hz] at e2
            have q6 : ((0 : Nat) = 0) = True := eq_true rfl
            simp (disch := omega) only [pk_mul, nI_add, ksub, kdv, kd8, kd64, kd2, kd3, km8, km64, kt8, ke8, ke64, kcl, kin, kle, klt, keq, up_s, up_n, up_u, true_and, and_true, false_implies, true_implies, not_false_eq_true, not_true_eq_false, e4, q2, q4, q5]
            refine c_cAt_2 e3 hc (by omega) hg ?_
            simp (disch := omega) only [pk_mul, nI_add, ksub, kdv, kd8, kd64, kd2, kd3, km8, km64, kt8, ke8, ke64, kcl, kin, kle, klt, keq, up_s, up_n, up_u, true_and, and_true, false_implies, true_implies, not_false_eq_true, not_true_eq_false, e2, q6]
            exact hQ J i1
      · have q1 : (c ≤ j + 1) = True := eq_true (by omega)
        refine b_X10_marched_0_33_p16 ?_
        simp (disch := omega) only [pk_mul, nI_add, ksub, kdv, kd8, kd64, kd2, kd3, km8, km64, kt8, ke8, ke64, kcl, kin, kle, klt, keq, up_s, up_n, up_u, true_and, and_true, false_implies, true_implies, not_false_eq_true, not_true_eq_false, e3, q1]
        have h9 := hQ J i1
        rw [show j + 1 = c from by omega] at h9
        exact h9
theorem c_areC_3 {e : am_V} {I : Nat → Nat → Int32} {L : Nat → Nat → Int64} {Q : Int32 → (Nat → Nat → Int32) → Prop} {n c : Nat} (h3 : I 35 3 = nI c) (hc : c ≤ 60) (c0 : I 3 0 = nI n) (h1 : (∀ k, k < c → gdc n (L 36 k) = true) → Q (nI 1) I) (h0 : (¬ ∀ k, k < c → gdc n (L 36 k) = true) → Q (nI 0) I) : C_X2_areCrossingsOf_35_3 e I L Q := by
  refine b_X2_areCrossingsOf_35_3 ?_
  refine lp_up (n := c) (S := Unit) (T := fun k _ => T_X2_areCrossingsOf_35_3_p2 e (nI k) I L Q) (fun k _ => ∀ k', k' < k → gdc n (L 36 k') = true) ?_ ?_ 0 () (Nat.zero_le _) (fun k' h => absurd h (Nat.not_lt_zero _))
  · intro k _ hk hi hnext
    have q1 : (c ≤ k) = False := eq_false (by omega)
    refine b_X2_areCrossingsOf_35_3_p2 ?_
    simp (disch := omega) only [pk_mul, nI_add, ksub, kdv, kd8, kd64, kd2, kd3, km8, km64, kt8, ke8, ke64, kcl, kin, kle, klt, keq, up_s, up_n, up_u, true_and, and_true, false_implies, true_implies, not_false_eq_true, not_true_eq_false, h3, q1, c0]
    refine ⟨fun hl => h0 (fun h => ?_), fun hl => ⟨fun hl2 => hnext () (fun k' hk' => ?_), fun hl2 => h0 (fun h => ?_)⟩⟩
    · exact (gdc_i.mp (h k hk)).1 hl
    · by_cases he : k' = k
      · rw [he]; exact gdc_i.mpr ⟨hl, hl2⟩
      · exact hi k' (by omega)
    · exact hl2 (gdc_i.mp (h k hk)).2
  · intro _ hi
    have q1 : (c ≤ c) = True := eq_true (Nat.le_refl _)
    refine b_X2_areCrossingsOf_35_3_p2 ?_
    simp (disch := omega) only [pk_mul, nI_add, ksub, kdv, kd8, kd64, kd2, kd3, km8, km64, kt8, ke8, ke64, kcl, kin, kle, klt, keq, up_s, up_n, up_u, true_and, and_true, false_implies, true_implies, not_false_eq_true, not_true_eq_false, h3, q1]
    exact h1 hi
theorem c_cAt_3 {e : am_V} {I : Nat → Nat → Int32} {L : Nat → Nat → Int64} {Q : Int32 → (Nat → Nat → Int32) → Prop} {c i : Nat} {g : Nat → Nat} (h3 : I 35 3 = nI c) (hc : c ≤ 60) (hi : i < c) (hg : ∀ k, k < c → L 36 k = lN (g k)) (hQ : Q (nI (g i)) I) : C_X2_crossingAt_35 e (nI i) I L Q := by
  have q1 : (c ≤ i) = False := eq_false (by omega)
  have e1 := hg i hi
  refine b_X2_crossingAt_35 ?_
  simp (disch := omega) only [pk_mul, nI_add, ksub, kdv, kd8, kd64, kd2, kd3, km8, km64, kt8, ke8, ke64, kcl, kin, kle, klt, keq, up_s, up_n, up_u, true_and, and_true, false_implies, true_implies, not_false_eq_true, not_true_eq_false, h3, q1, e1, knl, lN_i]
  exact hQ
theorem c_marched_3 {e : am_V} {I : Nat → Nat → Int32} {L : Nat → Nat → Int64} {Q : Int32 → (Nat → Nat → Int32) → Prop} {t : tw} {c : Nat} {g : Nat → Nat} (hC : CT t I) (hk : tok t) (h3 : I 35 3 = nI c) (hc : c ≤ 60) (hg : ∀ k, k < c → L 36 k = lN (g k)) (hg8 : ∀ k, k < c → g k < 8) (hQ : ∀ J, fr [2] [] I J → Q (nI (mrs (t 1) (t 3) g c)) J) : C_X10_marched_0_35 e I L Q := by
  have hC2 := hC
  have hk2 := hk
  obtain ⟨c0, c1, c2, c3, c4, c5, c6, c7, c8, cS, cD, cN, cA, cT, cM, cR, cF, cO, cH, cL⟩ := hC
  obtain ⟨o0, oT, oZ, oY, oD, o9, oN, o28, oB, oX, oE, oF, oA, oH, oU, oV⟩ := hk
  refine b_X10_marched_0_35 ?_
  have f0 : fr [2] [] I (va_up I 2 (va_cpy (I 10) (I 2) 0 0 512)) := fr_up (fr_refl _ _ _) rfl
  obtain ⟨s1, s2, s3⟩ := ff_sp (spj (t 1) (t 3) g) (c - 1)
  have ho : ∀ J, fr [2] [] I J → J 35 3 = nI c := fun J f => by rw [f.1 35 (by decide) (by decide)]; exact h3
  by_cases hc1 : c ≤ 1
  · have q1 := eq_true hc1
    have e3 := ho _ f0
    have h9 := hQ _ f0
    have h8 : mrs (t 1) (t 3) g c = c := by
      unfold mrs
      split
      · omega
      · rw [show c - 1 = 0 from by omega]
        show 0 + 1 = c
        omega
    rw [h8] at h9
    refine b_X10_marched_0_35_p16 ?_
    simp (disch := omega) only [pk_mul, nI_add, ksub, kdv, kd8, kd64, kd2, kd3, km8, km64, kt8, ke8, ke64, kcl, kin, kle, klt, keq, up_s, up_n, up_u, true_and, and_true, false_implies, true_implies, not_false_eq_true, not_true_eq_false, h3, q1]
    exact h9
  · have hm : mrs (t 1) (t 3) g c = ff (spj (t 1) (t 3) g) (c - 1) + 1 := if_neg (by omega)
    rw [hm] at hQ
    refine lp_up (n := ff (spj (t 1) (t 3) g) (c - 1)) (S := Nat → Nat → Int32) (T := fun j J => T_X10_marched_0_35_p16 e (nI (j + 1)) J L Q) (fun j J => fr [2] [] I J ∧ ∀ k, k < 512 → tB t k = true → J 2 k = nI (nmA (t 3) g j k)) ?_ ?_ 0 _ (Nat.zero_le _) ⟨f0, fun k hk5 hp => by show va_cpy (I 10) (I 2) 0 0 512 k = _; rw [cpy0 hk5]; exact cR k hk5 hp⟩
    · rintro j J hj ⟨i1, i2⟩ hnext
      have e3 := ho J i1
      have CJ := fr_CT i1 hC2 rfl
      have q1 : (c ≤ j + 1) = False := eq_false (by omega)
      have hns := s2 j hj
      have g0 := hg8 j (by omega)
      have g1 := hg8 (j + 1) (by omega)
      have e4 := CJ.2.2.2.2.2.2.2.2.2.1 (8 * g j + g (j + 1)) (by omega)
      have u4 := o9 (8 * g j + g (j + 1)) (by omega)
      have hst : ¬ t 1 (8 * g j + g (j + 1)) = 0 := fun h => by
        have := spj_t.mpr (Or.inl h : t 1 (8 * g j + g (j + 1)) = 0 ∨ (¬ j = 0 ∧ nmA (t 3) g j (64 * g (j - 1) + 8 * g j + g (j + 1)) = 0))
        rw [hns] at this; cases this
      have q2 : (t 1 (8 * g j + g (j + 1)) = 0) = False := eq_false hst
      have q3 : j + 1 - 1 = j := by omega
      refine b_X10_marched_0_35_p16 ?_
      simp (disch := omega) only [pk_mul, nI_add, ksub, kdv, kd8, kd64, kd2, kd3, km8, km64, kt8, ke8, ke64, kcl, kin, kle, klt, keq, up_s, up_n, up_u, true_and, and_true, false_implies, true_implies, not_false_eq_true, not_true_eq_false, e3, q1, q3]
      refine c_cAt_3 e3 hc (by omega) hg ?_
      refine c_cAt_3 e3 hc (by omega) hg ?_
      by_cases hj0 : j = 0
      · have q4 : (j + 1 ≤ 1) = True := eq_true (by omega)
        simp (disch := omega) only [pk_mul, nI_add, ksub, kdv, kd8, kd64, kd2, kd3, km8, km64, kt8, ke8, ke64, kcl, kin, kle, klt, keq, up_s, up_n, up_u, true_and, and_true, false_implies, true_implies, not_false_eq_true, not_true_eq_false, e4, q2, q4]
        refine hnext J ⟨i1, fun k hk5 hp => ?_⟩
        show J 2 k = nI ((if j = 0 then nmA (t 3) g j else _) k)
        rw [if_pos hj0]
        exact i2 k hk5 hp
      · have q4 : (j + 1 ≤ 1) = False := eq_false (by omega)
        have q5 : j + 1 - 2 = j - 1 := by omega
        have g2 := hg8 (j - 1) (by omega)
        have hst2 : ¬ t 1 (8 * g (j - 1) + g j) = 0 := fun h => by
          have h7 := s2 (j - 1) (by omega)
          have := spj_t.mpr (Or.inl (by rw [show j - 1 + 1 = j from by omega]; exact h) : t 1 (8 * g (j - 1) + g (j - 1 + 1)) = 0 ∨ (¬ (j - 1) = 0 ∧ nmA (t 3) g (j - 1) (64 * g (j - 1 - 1) + 8 * g (j - 1) + g (j - 1 + 1)) = 0))
          rw [h7] at this; cases this
        have hT : tB t (64 * g (j - 1) + 8 * g j + g (j + 1)) = true := tB_x g2 g0 g1 (by omega) (by omega)
        have e2 := i2 (64 * g (j - 1) + 8 * g j + g (j + 1)) (by omega) hT
        have hb := nmA_b (g := g) (tok_nw hk2) j (64 * g (j - 1) + 8 * g j + g (j + 1)) (by omega)
        have hnz : ¬ nmA (t 3) g j (64 * g (j - 1) + 8 * g j + g (j + 1)) = 0 := fun h => by
          have := spj_t.mpr (Or.inr ⟨hj0, h⟩ : t 1 (8 * g j + g (j + 1)) = 0 ∨ (¬ j = 0 ∧ nmA (t 3) g j (64 * g (j - 1) + 8 * g j + g (j + 1)) = 0))
          rw [hns] at this; cases this
        have q6 := eq_false hnz
        simp (disch := omega) only [pk_mul, nI_add, ksub, kdv, kd8, kd64, kd2, kd3, km8, km64, kt8, ke8, ke64, kcl, kin, kle, klt, keq, up_s, up_n, up_u, true_and, and_true, false_implies, true_implies, not_false_eq_true, not_true_eq_false, e4, q2, q4, q5]
        refine c_cAt_3 e3 hc (by omega) hg ?_
        simp (disch := omega) only [pk_mul, nI_add, ksub, kdv, kd8, kd64, kd2, kd3, km8, km64, kt8, ke8, ke64, kcl, kin, kle, klt, keq, up_s, up_n, up_u, true_and, and_true, false_implies, true_implies, not_false_eq_true, not_true_eq_false, e2, q6]
        refine hnext _ ⟨fr_up i1 rfl, fun k hk5 hp => ?_⟩
        show va_up (J 2) (64 * g (j - 1) + 8 * g j + g (j + 1)) (nI (nmA (t 3) g j (64 * g (j - 1) + 8 * g j + g (j + 1)) - 1)) k = nI ((if j = 0 then nmA (t 3) g j else va_up (nmA (t 3) g j) (64 * g (j - 1) + 8 * g j + g (j + 1)) (nmA (t 3) g j (64 * g (j - 1) + 8 * g j + g (j + 1)) - 1)) k)
        rw [if_neg hj0]
        by_cases he : k = 64 * g (j - 1) + 8 * g j + g (j + 1)
        · rw [he, up_s, up_s]
        · rw [up_n he, up_n he]; exact i2 k hk5 hp
    · rintro J ⟨i1, i2⟩
      have e3 := ho J i1
      have CJ := fr_CT i1 hC2 rfl
      generalize ff (spj (t 1) (t 3) g) (c - 1) = j at s1 s2 s3 hQ i2
      by_cases hj : j < c - 1
      · have hsp := spj_t.mp (s3 hj)
        have q1 : (c ≤ j + 1) = False := eq_false (by omega)
        have g0 := hg8 j (by omega)
        have g1 := hg8 (j + 1) (by omega)
        have e4 := CJ.2.2.2.2.2.2.2.2.2.1 (8 * g j + g (j + 1)) (by omega)
        have u4 := o9 (8 * g j + g (j + 1)) (by omega)
        have q3 : j + 1 - 1 = j := by omega
        refine b_X10_marched_0_35_p16 ?_
        simp (disch := omega) only [pk_mul, nI_add, ksub, kdv, kd8, kd64, kd2, kd3, km8, km64, kt8, ke8, ke64, kcl, kin, kle, klt, keq, up_s, up_n, up_u, true_and, and_true, false_implies, true_implies, not_false_eq_true, not_true_eq_false, e3, q1, q3]
        refine c_cAt_3 e3 hc (by omega) hg ?_
        refine c_cAt_3 e3 hc (by omega) hg ?_
        by_cases hst : t 1 (8 * g j + g (j + 1)) = 0
        · have q2 := eq_true hst
          simp (disch := omega) only [pk_mul, nI_add, ksub, kdv, kd8, kd64, kd2, kd3, km8, km64, kt8, ke8, ke64, kcl, kin, kle, klt, keq, up_s, up_n, up_u, true_and, and_true, false_implies, true_implies, not_false_eq_true, not_true_eq_false, e4, q2]
          exact hQ J i1
        · have q2 := eq_false hst
          rcases hsp with h | ⟨hj0, hz⟩
          · exact absurd h hst
          · have q4 : (j + 1 ≤ 1) = False := eq_false (by omega)
            have q5 : j + 1 - 2 = j - 1 := by omega
            have g2 := hg8 (j - 1) (by omega)
            have hst2 : ¬ t 1 (8 * g (j - 1) + g j) = 0 := fun h => by
              have h7 := s2 (j - 1) (by omega)
              have := spj_t.mpr (Or.inl (by rw [show j - 1 + 1 = j from by omega]; exact h) : t 1 (8 * g (j - 1) + g (j - 1 + 1)) = 0 ∨ (¬ (j - 1) = 0 ∧ nmA (t 3) g (j - 1) (64 * g (j - 1 - 1) + 8 * g (j - 1) + g (j - 1 + 1)) = 0))
              rw [h7] at this; cases this
            have hT : tB t (64 * g (j - 1) + 8 * g j + g (j + 1)) = true := tB_x g2 g0 g1 (by omega) (by omega)
            have e2 := i2 (64 * g (j - 1) + 8 * g j + g (j + 1)) (by omega) hT
            rw [hz] at e2
            have q6 : ((0 : Nat) = 0) = True := eq_true rfl
            simp (disch := omega) only [pk_mul, nI_add, ksub, kdv, kd8, kd64, kd2, kd3, km8, km64, kt8, ke8, ke64, kcl, kin, kle, klt, keq, up_s, up_n, up_u, true_and, and_true, false_implies, true_implies, not_false_eq_true, not_true_eq_false, e4, q2, q4, q5]
            refine c_cAt_3 e3 hc (by omega) hg ?_
            simp (disch := omega) only [pk_mul, nI_add, ksub, kdv, kd8, kd64, kd2, kd3, km8, km64, kt8, ke8, ke64, kcl, kin, kle, klt, keq, up_s, up_n, up_u, true_and, and_true, false_implies, true_implies, not_false_eq_true, not_true_eq_false, e2, q6]
            exact hQ J i1
      · have q1 : (c ≤ j + 1) = True := eq_true (by omega)
        refine b_X10_marched_0_35_p16 ?_
        simp (disch := omega) only [pk_mul, nI_add, ksub, kdv, kd8, kd64, kd2, kd3, km8, km64, kt8, ke8, ke64, kcl, kin, kle, klt, keq, up_s, up_n, up_u, true_and, and_true, false_implies, true_implies, not_false_eq_true, not_true_eq_false, e3, q1]
        have h9 := hQ J i1
        rw [show j + 1 = c from by omega] at h9
        exact h9
theorem c_marches {e : am_V} {I : Nat → Nat → Int32} {L : Nat → Nat → Int64} {Q : Int32 → (Nat → Nat → Int32) → Prop} {t : tw} {c s : Nat} {g : Nat → Nat} (hM : MT t I) (hk : tok t) (hs : s < 4) (h75 : I 75 s = nI c) (hc : c ≤ 60) (hg : ∀ k, k < c → L 76 (60 * s + k) = lN (g k)) (hg8 : ∀ k, k < c → g k < 8) (hQ : ∀ J, fr [87] [44] I J → J 73 44 = nI (sm (fun j => t 1 (8 * g j + g (j + 1))) (mrs (t 1) (t 3) g c - 1)) → Q (nI (mrs (t 1) (t 3) g c)) J) : C_X11_marches_73 e (nI s) I L Q := by
  have hM2 := hM
  have hk2 := hk
  obtain ⟨m0, m1, m2, m3, m4, m5, mS, mU, mL, mF, mO, mH, mA, mK⟩ := hM
  obtain ⟨o0, oT, oZ, oY, oD, o9, oN, o28, oB, oX, oE, oF, oA, oH, oU, oV⟩ := hk
  refine b_X11_marches_73 (c_asLeft mL (fun F0 hF0 => ?_))
  generalize hJ0 : va_up (va_up I 87 F0) 73 (va_up (va_up I 87 F0 73) 44 (nI 0)) = J0
  have f0 : fr [87] [44] I J0 := by
    have f1 : fr [87] [44] I (va_up I 87 F0) := fr_up (fr_refl _ _ _) rfl
    rw [← hJ0]
    exact fr_73 f1 rfl
  have j44 : J0 73 44 = nI 0 := by rw [← hJ0]; rfl
  have j87 : ∀ k, k < 512 → J0 87 k = nI (t 3 k) := fun k hk5 => by rw [← hJ0]; exact hF0 k hk5
  obtain ⟨s1, s2, s3⟩ := ff_sp (spj (t 1) (t 3) g) (c - 1)
  have ho : ∀ J, fr [87] [44] I J → J 75 s = nI c := fun J f => by rw [f.1 75 (by decide) (by decide)]; exact h75
  by_cases hc1 : c ≤ 1
  · have q1 := eq_true hc1
    have e3 := ho _ f0
    have h8 : mrs (t 1) (t 3) g c = c := by
      unfold mrs
      split
      · omega
      · rw [show c - 1 = 0 from by omega]
        show 0 + 1 = c
        omega
    rw [h8] at hQ
    refine b_X11_marches_73_p11 ?_
    simp (disch := omega) only [pk_mul, nI_add, ksub, kdv, kd8, kd64, kd2, kd3, km8, km64, kt8, ke8, ke64, kcl, kin, kle, klt, keq, up_s, up_n, up_u, true_and, and_true, false_implies, true_implies, not_false_eq_true, not_true_eq_false, e3, q1]
    refine hQ _ f0 ?_
    rw [show c - 1 = 0 from by omega, j44]
    rfl
  · have hm : mrs (t 1) (t 3) g c = ff (spj (t 1) (t 3) g) (c - 1) + 1 := if_neg (by omega)
    rw [hm, Nat.add_sub_cancel] at hQ
    refine lp_up (n := ff (spj (t 1) (t 3) g) (c - 1)) (S := Nat → Nat → Int32) (T := fun j J => T_X11_marches_73_p11 e (nI s) (nI (j + 1)) J L Q) (fun j J => fr [87] [44] I J ∧ (∀ k, k < 512 → J 87 k = nI (nmA (t 3) g j k)) ∧ J 73 44 = nI (sm (fun j => t 1 (8 * g j + g (j + 1))) j)) ?_ ?_ 0 J0 (Nat.zero_le _) ⟨f0, j87, j44⟩
    · rintro j J hj ⟨i1, i2, i3⟩ hnext
      have e3 := ho J i1
      have MJ := fr_MT i1 hM2 rfl
      have q1 : (c ≤ j + 1) = False := eq_false (by omega)
      have hns := s2 j hj
      have g0 := hg8 j (by omega)
      have g1 := hg8 (j + 1) (by omega)
      have l0 := hg j (by omega)
      have l1 := hg (j + 1) (by omega)
      have e4 := MJ.2.2.2.2.2.2.1 (8 * g j + g (j + 1)) (by omega)
      have u4 := o9 (8 * g j + g (j + 1)) (by omega)
      have hst : ¬ t 1 (8 * g j + g (j + 1)) = 0 := fun h => by
        have := spj_t.mpr (Or.inl h : t 1 (8 * g j + g (j + 1)) = 0 ∨ (¬ j = 0 ∧ nmA (t 3) g j (64 * g (j - 1) + 8 * g j + g (j + 1)) = 0))
        rw [hns] at this; cases this
      have q2 : (t 1 (8 * g j + g (j + 1)) ≤ 0) = False := eq_false (by omega)
      have q3 : 60 * s + (j + 1) - 1 = 60 * s + j := by omega
      by_cases hj0 : j = 0
      · have q4 : (j + 1 ≤ 1) = True := eq_true (by omega)
        refine b_X11_marches_73_p11 ?_
        simp (disch := omega) only [pk_mul, nI_add, ksub, kdv, kd8, kd64, kd2, kd3, km8, km64, kt8, ke8, ke64, kcl, kin, kle, klt, keq, up_s, up_n, up_u, true_and, and_true, false_implies, true_implies, not_false_eq_true, not_true_eq_false, e3, q1, q3, l0, l1, lN_i, e4, q2, q4, i3]
        refine hnext _ ⟨fr_73 i1 rfl, fun k hk5 => ?_, rfl⟩
        show J 87 k = nI ((if j = 0 then nmA (t 3) g j else _) k)
        rw [if_pos hj0]
        exact i2 k hk5
      · have q4 : (j + 1 ≤ 1) = False := eq_false (by omega)
        have q5 : 60 * s + (j + 1) - 2 = 60 * s + (j - 1) := by omega
        have g2 := hg8 (j - 1) (by omega)
        have l2 := hg (j - 1) (by omega)
        have e2 := i2 (64 * g (j - 1) + 8 * g j + g (j + 1)) (by omega)
        have hb := nmA_b (g := g) (tok_nw hk2) j (64 * g (j - 1) + 8 * g j + g (j + 1)) (by omega)
        have hnz : ¬ nmA (t 3) g j (64 * g (j - 1) + 8 * g j + g (j + 1)) = 0 := fun h => by
          have := spj_t.mpr (Or.inr ⟨hj0, h⟩ : t 1 (8 * g j + g (j + 1)) = 0 ∨ (¬ j = 0 ∧ nmA (t 3) g j (64 * g (j - 1) + 8 * g j + g (j + 1)) = 0))
          rw [hns] at this; cases this
        have q6 := eq_false hnz
        refine b_X11_marches_73_p11 ?_
        simp (disch := omega) only [pk_mul, nI_add, ksub, kdv, kd8, kd64, kd2, kd3, km8, km64, kt8, ke8, ke64, kcl, kin, kle, klt, keq, up_s, up_n, up_u, true_and, and_true, false_implies, true_implies, not_false_eq_true, not_true_eq_false, e3, q1, q3, q5, l0, l1, l2, lN_i, e4, q2, q4, e2, q6, i3]
        have f6 : fr [87] [44] I (va_up J 87 (va_up (J 87) (64 * g (j - 1) + 8 * g j + g (j + 1)) (nI (nmA (t 3) g j (64 * g (j - 1) + 8 * g j + g (j + 1)) - 1)))) := fr_up i1 rfl
        refine hnext _ ⟨fr_73 f6 rfl, fun k hk5 => ?_, rfl⟩
        show va_up (J 87) (64 * g (j - 1) + 8 * g j + g (j + 1)) (nI (nmA (t 3) g j (64 * g (j - 1) + 8 * g j + g (j + 1)) - 1)) k = nI ((if j = 0 then nmA (t 3) g j else va_up (nmA (t 3) g j) (64 * g (j - 1) + 8 * g j + g (j + 1)) (nmA (t 3) g j (64 * g (j - 1) + 8 * g j + g (j + 1)) - 1)) k)
        rw [if_neg hj0]
        by_cases he : k = 64 * g (j - 1) + 8 * g j + g (j + 1)
        · rw [he, up_s, up_s]
        · rw [up_n he, up_n he]; exact i2 k hk5
    · rintro J ⟨i1, i2, i3⟩
      have e3 := ho J i1
      have MJ := fr_MT i1 hM2 rfl
      generalize ff (spj (t 1) (t 3) g) (c - 1) = j at s1 s2 s3 hQ i2 i3
      by_cases hj : j < c - 1
      · have hsp := spj_t.mp (s3 hj)
        have q1 : (c ≤ j + 1) = False := eq_false (by omega)
        have g0 := hg8 j (by omega)
        have g1 := hg8 (j + 1) (by omega)
        have l0 := hg j (by omega)
        have l1 := hg (j + 1) (by omega)
        have e4 := MJ.2.2.2.2.2.2.1 (8 * g j + g (j + 1)) (by omega)
        have u4 := o9 (8 * g j + g (j + 1)) (by omega)
        have q3 : 60 * s + (j + 1) - 1 = 60 * s + j := by omega
        by_cases hst : t 1 (8 * g j + g (j + 1)) = 0
        · have q2 : (t 1 (8 * g j + g (j + 1)) ≤ 0) = True := eq_true (by omega)
          refine b_X11_marches_73_p11 ?_
          simp (disch := omega) only [pk_mul, nI_add, ksub, kdv, kd8, kd64, kd2, kd3, km8, km64, kt8, ke8, ke64, kcl, kin, kle, klt, keq, up_s, up_n, up_u, true_and, and_true, false_implies, true_implies, not_false_eq_true, not_true_eq_false, e3, q1, q3, l0, l1, lN_i, e4, q2]
          exact hQ J i1 i3
        · have q2 : (t 1 (8 * g j + g (j + 1)) ≤ 0) = False := eq_false (by omega)
          rcases hsp with h | ⟨hj0, hz⟩
          · exact absurd h hst
          · have q4 : (j + 1 ≤ 1) = False := eq_false (by omega)
            have q5 : 60 * s + (j + 1) - 2 = 60 * s + (j - 1) := by omega
            have g2 := hg8 (j - 1) (by omega)
            have l2 := hg (j - 1) (by omega)
            have e2 := i2 (64 * g (j - 1) + 8 * g j + g (j + 1)) (by omega)
            rw [hz] at e2
            have q6 : ((0 : Nat) = 0) = True := eq_true rfl
            refine b_X11_marches_73_p11 ?_
            simp (disch := omega) only [pk_mul, nI_add, ksub, kdv, kd8, kd64, kd2, kd3, km8, km64, kt8, ke8, ke64, kcl, kin, kle, klt, keq, up_s, up_n, up_u, true_and, and_true, false_implies, true_implies, not_false_eq_true, not_true_eq_false, e3, q1, q3, q5, l0, l1, l2, lN_i, e4, q2, q4, e2, q6]
            exact hQ J i1 i3
      · have q1 : (c ≤ j + 1) = True := eq_true (by omega)
        refine b_X11_marches_73_p11 ?_
        simp (disch := omega) only [pk_mul, nI_add, ksub, kdv, kd8, kd64, kd2, kd3, km8, km64, kt8, ke8, ke64, kcl, kin, kle, klt, keq, up_s, up_n, up_u, true_and, and_true, false_implies, true_implies, not_false_eq_true, not_true_eq_false, e3, q1]
        have h9 := hQ J i1 i3
        rw [show j + 1 = c from by omega] at h9
        exact h9
theorem c_whyNotMarch {e : am_V} {I : Nat → Nat → Int32} {L : Nat → Nat → Int64} {Q : Int32 → (Nat → Nat → Int32) → Prop} {t : tw} {c s : Nat} (hM : MT t I) (hk : tok t) (hs : s < 4) (h75 : I 75 s = nI c) (hc : c ≤ 60) (h1 : (∀ k, k < c → gdc (t 0 0) (L 76 (60 * s + k)) = true) → Q (nI 0) I) (h0 : (¬ ∀ k, k < c → gdc (t 0 0) (L 76 (60 * s + k)) = true) → Q (-2 : Int32) I) : T_X11_whyNotMarch_73_p32 e (nI s) (nI 0) I L Q := by
  obtain ⟨m0, m1, m2, m3, m4, m5, mS, mU, mL, mF, mO, mH, mA, mK⟩ := hM
  have o0 := hk.1
  refine lp_up (n := c) (S := Unit) (T := fun k _ => T_X11_whyNotMarch_73_p32 e (nI s) (nI k) I L Q) (fun k _ => ∀ k', k' < k → gdc (t 0 0) (L 76 (60 * s + k')) = true) ?_ ?_ 0 () (Nat.zero_le _) (fun k' h => absurd h (Nat.not_lt_zero _))
  · intro k _ hk hi hnext
    have q1 : (c ≤ k) = False := eq_false (by omega)
    refine b_X11_whyNotMarch_73_p32 ?_
    simp (disch := omega) only [pk_mul, nI_add, ksub, kdv, kd8, kd64, kd2, kd3, km8, km64, kt8, ke8, ke64, kcl, kin, kle, klt, keq, up_s, up_n, up_u, true_and, and_true, false_implies, true_implies, not_false_eq_true, not_true_eq_false, h75, q1, m1]
    refine ⟨fun hl => h0 (fun h => ?_), fun hl => ⟨fun hl2 => h0 (fun h => ?_), fun hl2 => hnext () (fun k' hk' => ?_)⟩⟩
    · exact (gdc_i.mp (h k hk)).1 hl
    · exact (gdc_m o0).mp hl2 (gdc_i.mp (h k hk)).2
    · by_cases he : k' = k
      · rw [he]
        exact gdc_i.mpr ⟨hl, Classical.not_not.mp (fun h => hl2 ((gdc_m o0).mpr h))⟩
      · exact hi k' (by omega)
  · intro _ hi
    have q1 : (c ≤ c) = True := eq_true (Nat.le_refl _)
    refine b_X11_whyNotMarch_73_p32 ?_
    simp (disch := omega) only [pk_mul, nI_add, ksub, kdv, kd8, kd64, kd2, kd3, km8, km64, kt8, ke8, ke64, kcl, kin, kle, klt, keq, up_s, up_n, up_u, true_and, and_true, false_implies, true_implies, not_false_eq_true, not_true_eq_false, h75, q1]
    exact h1 hi
theorem q_march_0 {e : am_V} {I : Nat → Nat → Int32} {L : Nat → Nat → Int64} {t : tw} {Q : Int32 → Int32 → (Nat → Nat → Int32) → Prop} (hC : CT t I) (hM : MT t I) (hk : tok t) (hS : SL I L) (hQ : ∀ r J, fr SC FC I J → Q r r J) : C_X10_march_0 e (nI 0) I L (fun r J => C_X11_march_73 e (nI 0) J L (fun r' K => Q r r' K)) := by
  have hC2 := hC
  have hM2 := hM
  have hk2 := hk
  obtain ⟨c0, c1, c2, c3, c4, c5, c6, c7, c8, cS, cD, cN, cA, cT, cM, cR, cF, cO, cH, cL⟩ := hC
  obtain ⟨m0, m1, m2, m3, m4, m5, mS, mU, mL, mF, mO, mH, mA, mK⟩ := hM
  obtain ⟨o0, oT, oZ, oY, oD, o9, oN, o28, oB, oX, oE, oF, oA, oH, oU, oV⟩ := hk
  have f0 : fr SC FC I (va_up I 73 (va_up (I 73) 0 (nI 0))) := fr_73 (fr_refl _ _ _) rfl
  have n3 : (0 : Nat) ≤ 3 := by decide
  have q3 : (0 ≤ 3) = True := eq_true n3
  by_cases h0 : t 0 0 ≤ 0
  · have g0 := eq_true h0
    have g1 : (t 0 3 ≤ 0) = True := eq_true (by omega)
    (refine b_X10_march_0_c0 ?_; simp (disch := omega) only [pk_mul, nI_add, ksub, kdv, kd8, kd64, kd2, kd3, km8, km64, kt8, ke8, ke64, kcl, kin, kle, klt, keq, up_s, up_n, up_u, true_and, and_true, false_implies, true_implies, not_false_eq_true, not_true_eq_false, c0, g0]; refine b_X11_march_73 (b_X11_whyNotMarch_73 ?_); simp (disch := omega) only [pk_mul, nI_add, ksub, kdv, kd8, kd64, kd2, kd3, km8, km64, kt8, ke8, ke64, kcl, kin, kle, klt, keq, up_s, up_n, up_u, true_and, and_true, false_implies, true_implies, not_false_eq_true, not_true_eq_false, m0, g1, kzl, kl3, q3, knl]; exact ⟨fun h => absurd h (by decide), fun _ => hQ _ _ f0⟩)
  · have g0 := eq_false h0
    have g1 : (t 0 3 ≤ 0) = False := eq_false (by omega)
    rcases hS 0 (by decide) with ⟨z1, z2⟩ | ⟨w, c, hw, hc, z1, z2, z3, z4, z5, z6⟩
    · change I 29 1 = nI 0 at z1
      have qT : ((0 : Nat) = 0) = True := eq_true rfl
      have qM : ((-1 : Int32) = (-1 : Int32)) = True := eq_true rfl
      refine b_X10_march_0_c0 ?_
      simp (disch := omega) only [pk_mul, nI_add, ksub, kdv, kd8, kd64, kd2, kd3, km8, km64, kt8, ke8, ke64, kcl, kin, kle, klt, keq, up_s, up_n, up_u, true_and, and_true, false_implies, true_implies, not_false_eq_true, not_true_eq_false, c0, g0, z1, qT]
      refine b_X11_march_73 (b_X11_whyNotMarch_73 ?_)
      simp (disch := omega) only [pk_mul, nI_add, ksub, kdv, kd8, kd64, kd2, kd3, km8, km64, kt8, ke8, ke64, kcl, kin, kle, klt, keq, up_s, up_n, up_u, true_and, and_true, false_implies, true_implies, not_false_eq_true, not_true_eq_false, m0, g1, kzl, kl3, q3, knl, z2, qM]
      exact ⟨fun h => absurd h (by decide), fun _ => hQ _ _ f0⟩
    · change I 29 1 = nI 1 at z1
      change I 29 2 = nI w at z2
      change I 29 3 = nI c at z3
      have z6' : ∀ k, k < c → L 76 (60 * 0 + k) = L 30 k := fun k hk => (z6 k hk).symm
      have qF : ((1 : Nat) = 0) = False := eq_false (by decide)
      have qm := km1 (n := w) (by omega)
      refine b_X10_march_0_c0 ?_
      simp (disch := omega) only [pk_mul, nI_add, ksub, kdv, kd8, kd64, kd2, kd3, km8, km64, kt8, ke8, ke64, kcl, kin, kle, klt, keq, up_s, up_n, up_u, true_and, and_true, false_implies, true_implies, not_false_eq_true, not_true_eq_false, c0, g0, z1, qF]
      refine c_areC_0 z3 hc c0 (fun hg => ?_) (fun hg => ?_)
      · refine ⟨fun h => absurd h (by decide), fun _ => ?_⟩
        have hex : ∃ g : Nat → Nat, ∀ k, k < c → g k < t 0 0 ∧ L 30 k = lN (g k) := by
          refine ⟨fun k => if h : k < c then Classical.choose (gdc_o o0 (hg k h)) else 0, fun k hk => ?_⟩
          show (if h : k < c then Classical.choose (gdc_o o0 (hg k h)) else 0) < _ ∧ _ = lN (if h : k < c then Classical.choose (gdc_o o0 (hg k h)) else 0)
          rw [dif_pos hk]
          exact Classical.choose_spec (gdc_o o0 (hg k hk))
        obtain ⟨g, hgg⟩ := hex
        refine c_marched_0 hC2 hk2 z3 hc (fun k hk => (hgg k hk).2) (fun k hk => by have := (hgg k hk).1; omega) (fun J fJ => ?_)
        have MJ := fr_MT fJ hM2 rfl
        have m0J := MJ.1
        have z4J : J 74 0 = nI w := by rw [fJ.1 74 (by decide) (by decide)]; exact z4
        have z5J : J 75 0 = nI c := by rw [fJ.1 75 (by decide) (by decide)]; exact z5
        have hm : ∀ Q2 : Int32 → (Nat → Nat → Int32) → Prop, (∀ K, fr SC FC I K → Q2 (nI (mrs (t 1) (t 3) g c)) K) → C_X11_march_73 e (nI 0) J L Q2 := by
          intro Q2 hQ2
          refine b_X11_march_73 (b_X11_whyNotMarch_73 ?_)
          simp (disch := omega) only [pk_mul, nI_add, ksub, kdv, kd8, kd64, kd2, kd3, km8, km64, kt8, ke8, ke64, kcl, kin, kle, klt, keq, up_s, up_n, up_u, true_and, and_true, false_implies, true_implies, not_false_eq_true, not_true_eq_false, m0J, g1, kzl, kl3, q3, knl, z4J, qm]
          refine c_whyNotMarch (MT_0 MJ) hk2 (by decide) z5J hc (fun _ => ?_) (fun h => absurd (fun k hk => by rw [z6' k hk]; exact hg k hk) h)
          refine ⟨fun _ => ?_, fun h => absurd rfl h⟩
          refine c_marches (MT_0 MJ) hk2 (by decide) z5J hc (fun k hk => by rw [z6' k hk]; exact (hgg k hk).2) (fun k hk => by have := (hgg k hk).1; omega) (fun K fK k1 => ?_)
          exact hQ2 _ (fr_q1 fJ fK rfl rfl rfl rfl)
        exact hm _ (fun K fK => hQ _ _ fK)
      · refine ⟨fun _ => ?_, fun h => absurd rfl h⟩
        refine b_X11_march_73 (b_X11_whyNotMarch_73 ?_)
        simp (disch := omega) only [pk_mul, nI_add, ksub, kdv, kd8, kd64, kd2, kd3, km8, km64, kt8, ke8, ke64, kcl, kin, kle, klt, keq, up_s, up_n, up_u, true_and, and_true, false_implies, true_implies, not_false_eq_true, not_true_eq_false, m0, g1, kzl, kl3, q3, knl, z4, qm]
        refine c_whyNotMarch (MT_0 hM2) hk2 (by decide) z5 hc (fun h => absurd (fun k hk => by rw [← z6' k hk]; exact h k hk) hg) (fun _ => ?_)
        exact ⟨fun h => absurd h (by decide), fun _ => hQ _ _ f0⟩
theorem q_march_1 {e : am_V} {I : Nat → Nat → Int32} {L : Nat → Nat → Int64} {t : tw} {Q : Int32 → Int32 → (Nat → Nat → Int32) → Prop} (hC : CT t I) (hM : MT t I) (hk : tok t) (hS : SL I L) (hQ : ∀ r J, fr SC FC I J → Q r r J) : C_X10_march_0 e (nI 1) I L (fun r J => C_X11_march_73 e (nI 1) J L (fun r' K => Q r r' K)) := by
  have hC2 := hC
  have hM2 := hM
  have hk2 := hk
  obtain ⟨c0, c1, c2, c3, c4, c5, c6, c7, c8, cS, cD, cN, cA, cT, cM, cR, cF, cO, cH, cL⟩ := hC
  obtain ⟨m0, m1, m2, m3, m4, m5, mS, mU, mL, mF, mO, mH, mA, mK⟩ := hM
  obtain ⟨o0, oT, oZ, oY, oD, o9, oN, o28, oB, oX, oE, oF, oA, oH, oU, oV⟩ := hk
  have f0 : fr SC FC I (va_up I 73 (va_up (I 73) 0 (nI 0))) := fr_73 (fr_refl _ _ _) rfl
  have n3 : (1 : Nat) ≤ 3 := by decide
  have q3 : (1 ≤ 3) = True := eq_true n3
  by_cases h0 : t 0 0 ≤ 0
  · have g0 := eq_true h0
    have g1 : (t 0 3 ≤ 0) = True := eq_true (by omega)
    (refine b_X10_march_0_c1 ?_; simp (disch := omega) only [pk_mul, nI_add, ksub, kdv, kd8, kd64, kd2, kd3, km8, km64, kt8, ke8, ke64, kcl, kin, kle, klt, keq, up_s, up_n, up_u, true_and, and_true, false_implies, true_implies, not_false_eq_true, not_true_eq_false, c0, g0]; refine b_X11_march_73 (b_X11_whyNotMarch_73 ?_); simp (disch := omega) only [pk_mul, nI_add, ksub, kdv, kd8, kd64, kd2, kd3, km8, km64, kt8, ke8, ke64, kcl, kin, kle, klt, keq, up_s, up_n, up_u, true_and, and_true, false_implies, true_implies, not_false_eq_true, not_true_eq_false, m0, g1, kzl, kl3, q3, knl]; exact ⟨fun h => absurd h (by decide), fun _ => hQ _ _ f0⟩)
  · have g0 := eq_false h0
    have g1 : (t 0 3 ≤ 0) = False := eq_false (by omega)
    rcases hS 1 (by decide) with ⟨z1, z2⟩ | ⟨w, c, hw, hc, z1, z2, z3, z4, z5, z6⟩
    · change I 31 1 = nI 0 at z1
      have qT : ((0 : Nat) = 0) = True := eq_true rfl
      have qM : ((-1 : Int32) = (-1 : Int32)) = True := eq_true rfl
      refine b_X10_march_0_c1 ?_
      simp (disch := omega) only [pk_mul, nI_add, ksub, kdv, kd8, kd64, kd2, kd3, km8, km64, kt8, ke8, ke64, kcl, kin, kle, klt, keq, up_s, up_n, up_u, true_and, and_true, false_implies, true_implies, not_false_eq_true, not_true_eq_false, c0, g0, z1, qT]
      refine b_X11_march_73 (b_X11_whyNotMarch_73 ?_)
      simp (disch := omega) only [pk_mul, nI_add, ksub, kdv, kd8, kd64, kd2, kd3, km8, km64, kt8, ke8, ke64, kcl, kin, kle, klt, keq, up_s, up_n, up_u, true_and, and_true, false_implies, true_implies, not_false_eq_true, not_true_eq_false, m0, g1, kzl, kl3, q3, knl, z2, qM]
      exact ⟨fun h => absurd h (by decide), fun _ => hQ _ _ f0⟩
    · change I 31 1 = nI 1 at z1
      change I 31 2 = nI w at z2
      change I 31 3 = nI c at z3
      have z6' : ∀ k, k < c → L 76 (60 * 1 + k) = L 32 k := fun k hk => (z6 k hk).symm
      have qF : ((1 : Nat) = 0) = False := eq_false (by decide)
      have qm := km1 (n := w) (by omega)
      refine b_X10_march_0_c1 ?_
      simp (disch := omega) only [pk_mul, nI_add, ksub, kdv, kd8, kd64, kd2, kd3, km8, km64, kt8, ke8, ke64, kcl, kin, kle, klt, keq, up_s, up_n, up_u, true_and, and_true, false_implies, true_implies, not_false_eq_true, not_true_eq_false, c0, g0, z1, qF]
      refine c_areC_1 z3 hc c0 (fun hg => ?_) (fun hg => ?_)
      · refine ⟨fun h => absurd h (by decide), fun _ => ?_⟩
        have hex : ∃ g : Nat → Nat, ∀ k, k < c → g k < t 0 0 ∧ L 32 k = lN (g k) := by
          refine ⟨fun k => if h : k < c then Classical.choose (gdc_o o0 (hg k h)) else 0, fun k hk => ?_⟩
          show (if h : k < c then Classical.choose (gdc_o o0 (hg k h)) else 0) < _ ∧ _ = lN (if h : k < c then Classical.choose (gdc_o o0 (hg k h)) else 0)
          rw [dif_pos hk]
          exact Classical.choose_spec (gdc_o o0 (hg k hk))
        obtain ⟨g, hgg⟩ := hex
        refine c_marched_1 hC2 hk2 z3 hc (fun k hk => (hgg k hk).2) (fun k hk => by have := (hgg k hk).1; omega) (fun J fJ => ?_)
        have MJ := fr_MT fJ hM2 rfl
        have m0J := MJ.1
        have z4J : J 74 1 = nI w := by rw [fJ.1 74 (by decide) (by decide)]; exact z4
        have z5J : J 75 1 = nI c := by rw [fJ.1 75 (by decide) (by decide)]; exact z5
        have hm : ∀ Q2 : Int32 → (Nat → Nat → Int32) → Prop, (∀ K, fr SC FC I K → Q2 (nI (mrs (t 1) (t 3) g c)) K) → C_X11_march_73 e (nI 1) J L Q2 := by
          intro Q2 hQ2
          refine b_X11_march_73 (b_X11_whyNotMarch_73 ?_)
          simp (disch := omega) only [pk_mul, nI_add, ksub, kdv, kd8, kd64, kd2, kd3, km8, km64, kt8, ke8, ke64, kcl, kin, kle, klt, keq, up_s, up_n, up_u, true_and, and_true, false_implies, true_implies, not_false_eq_true, not_true_eq_false, m0J, g1, kzl, kl3, q3, knl, z4J, qm]
          refine c_whyNotMarch (MT_0 MJ) hk2 (by decide) z5J hc (fun _ => ?_) (fun h => absurd (fun k hk => by rw [z6' k hk]; exact hg k hk) h)
          refine ⟨fun _ => ?_, fun h => absurd rfl h⟩
          refine c_marches (MT_0 MJ) hk2 (by decide) z5J hc (fun k hk => by rw [z6' k hk]; exact (hgg k hk).2) (fun k hk => by have := (hgg k hk).1; omega) (fun K fK k1 => ?_)
          exact hQ2 _ (fr_q1 fJ fK rfl rfl rfl rfl)
        exact hm _ (fun K fK => hQ _ _ fK)
      · refine ⟨fun _ => ?_, fun h => absurd rfl h⟩
        refine b_X11_march_73 (b_X11_whyNotMarch_73 ?_)
        simp (disch := omega) only [pk_mul, nI_add, ksub, kdv, kd8, kd64, kd2, kd3, km8, km64, kt8, ke8, ke64, kcl, kin, kle, klt, keq, up_s, up_n, up_u, true_and, and_true, false_implies, true_implies, not_false_eq_true, not_true_eq_false, m0, g1, kzl, kl3, q3, knl, z4, qm]
        refine c_whyNotMarch (MT_0 hM2) hk2 (by decide) z5 hc (fun h => absurd (fun k hk => by rw [← z6' k hk]; exact h k hk) hg) (fun _ => ?_)
        exact ⟨fun h => absurd h (by decide), fun _ => hQ _ _ f0⟩
theorem q_march_2 {e : am_V} {I : Nat → Nat → Int32} {L : Nat → Nat → Int64} {t : tw} {Q : Int32 → Int32 → (Nat → Nat → Int32) → Prop} (hC : CT t I) (hM : MT t I) (hk : tok t) (hS : SL I L) (hQ : ∀ r J, fr SC FC I J → Q r r J) : C_X10_march_0 e (nI 2) I L (fun r J => C_X11_march_73 e (nI 2) J L (fun r' K => Q r r' K)) := by
  have hC2 := hC
  have hM2 := hM
  have hk2 := hk
  obtain ⟨c0, c1, c2, c3, c4, c5, c6, c7, c8, cS, cD, cN, cA, cT, cM, cR, cF, cO, cH, cL⟩ := hC
  obtain ⟨m0, m1, m2, m3, m4, m5, mS, mU, mL, mF, mO, mH, mA, mK⟩ := hM
  obtain ⟨o0, oT, oZ, oY, oD, o9, oN, o28, oB, oX, oE, oF, oA, oH, oU, oV⟩ := hk
  have f0 : fr SC FC I (va_up I 73 (va_up (I 73) 0 (nI 0))) := fr_73 (fr_refl _ _ _) rfl
  have n3 : (2 : Nat) ≤ 3 := by decide
  have q3 : (2 ≤ 3) = True := eq_true n3
  by_cases h0 : t 0 0 ≤ 0
  · have g0 := eq_true h0
    have g1 : (t 0 3 ≤ 0) = True := eq_true (by omega)
    (refine b_X10_march_0_c2 ?_; simp (disch := omega) only [pk_mul, nI_add, ksub, kdv, kd8, kd64, kd2, kd3, km8, km64, kt8, ke8, ke64, kcl, kin, kle, klt, keq, up_s, up_n, up_u, true_and, and_true, false_implies, true_implies, not_false_eq_true, not_true_eq_false, c0, g0]; refine b_X11_march_73 (b_X11_whyNotMarch_73 ?_); simp (disch := omega) only [pk_mul, nI_add, ksub, kdv, kd8, kd64, kd2, kd3, km8, km64, kt8, ke8, ke64, kcl, kin, kle, klt, keq, up_s, up_n, up_u, true_and, and_true, false_implies, true_implies, not_false_eq_true, not_true_eq_false, m0, g1, kzl, kl3, q3, knl]; exact ⟨fun h => absurd h (by decide), fun _ => hQ _ _ f0⟩)
  · have g0 := eq_false h0
    have g1 : (t 0 3 ≤ 0) = False := eq_false (by omega)
    rcases hS 2 (by decide) with ⟨z1, z2⟩ | ⟨w, c, hw, hc, z1, z2, z3, z4, z5, z6⟩
    · change I 33 1 = nI 0 at z1
      have qT : ((0 : Nat) = 0) = True := eq_true rfl
      have qM : ((-1 : Int32) = (-1 : Int32)) = True := eq_true rfl
      refine b_X10_march_0_c2 ?_
      simp (disch := omega) only [pk_mul, nI_add, ksub, kdv, kd8, kd64, kd2, kd3, km8, km64, kt8, ke8, ke64, kcl, kin, kle, klt, keq, up_s, up_n, up_u, true_and, and_true, false_implies, true_implies, not_false_eq_true, not_true_eq_false, c0, g0, z1, qT]
      refine b_X11_march_73 (b_X11_whyNotMarch_73 ?_)
      simp (disch := omega) only [pk_mul, nI_add, ksub, kdv, kd8, kd64, kd2, kd3, km8, km64, kt8, ke8, ke64, kcl, kin, kle, klt, keq, up_s, up_n, up_u, true_and, and_true, false_implies, true_implies, not_false_eq_true, not_true_eq_false, m0, g1, kzl, kl3, q3, knl, z2, qM]
      exact ⟨fun h => absurd h (by decide), fun _ => hQ _ _ f0⟩
    · change I 33 1 = nI 1 at z1
      change I 33 2 = nI w at z2
      change I 33 3 = nI c at z3
      have z6' : ∀ k, k < c → L 76 (60 * 2 + k) = L 34 k := fun k hk => (z6 k hk).symm
      have qF : ((1 : Nat) = 0) = False := eq_false (by decide)
      have qm := km1 (n := w) (by omega)
      refine b_X10_march_0_c2 ?_
      simp (disch := omega) only [pk_mul, nI_add, ksub, kdv, kd8, kd64, kd2, kd3, km8, km64, kt8, ke8, ke64, kcl, kin, kle, klt, keq, up_s, up_n, up_u, true_and, and_true, false_implies, true_implies, not_false_eq_true, not_true_eq_false, c0, g0, z1, qF]
      refine c_areC_2 z3 hc c0 (fun hg => ?_) (fun hg => ?_)
      · refine ⟨fun h => absurd h (by decide), fun _ => ?_⟩
        have hex : ∃ g : Nat → Nat, ∀ k, k < c → g k < t 0 0 ∧ L 34 k = lN (g k) := by
          refine ⟨fun k => if h : k < c then Classical.choose (gdc_o o0 (hg k h)) else 0, fun k hk => ?_⟩
          show (if h : k < c then Classical.choose (gdc_o o0 (hg k h)) else 0) < _ ∧ _ = lN (if h : k < c then Classical.choose (gdc_o o0 (hg k h)) else 0)
          rw [dif_pos hk]
          exact Classical.choose_spec (gdc_o o0 (hg k hk))
        obtain ⟨g, hgg⟩ := hex
        refine c_marched_2 hC2 hk2 z3 hc (fun k hk => (hgg k hk).2) (fun k hk => by have := (hgg k hk).1; omega) (fun J fJ => ?_)
        have MJ := fr_MT fJ hM2 rfl
        have m0J := MJ.1
        have z4J : J 74 2 = nI w := by rw [fJ.1 74 (by decide) (by decide)]; exact z4
        have z5J : J 75 2 = nI c := by rw [fJ.1 75 (by decide) (by decide)]; exact z5
        have hm : ∀ Q2 : Int32 → (Nat → Nat → Int32) → Prop, (∀ K, fr SC FC I K → Q2 (nI (mrs (t 1) (t 3) g c)) K) → C_X11_march_73 e (nI 2) J L Q2 := by
          intro Q2 hQ2
          refine b_X11_march_73 (b_X11_whyNotMarch_73 ?_)
          simp (disch := omega) only [pk_mul, nI_add, ksub, kdv, kd8, kd64, kd2, kd3, km8, km64, kt8, ke8, ke64, kcl, kin, kle, klt, keq, up_s, up_n, up_u, true_and, and_true, false_implies, true_implies, not_false_eq_true, not_true_eq_false, m0J, g1, kzl, kl3, q3, knl, z4J, qm]
          refine c_whyNotMarch (MT_0 MJ) hk2 (by decide) z5J hc (fun _ => ?_) (fun h => absurd (fun k hk => by rw [z6' k hk]; exact hg k hk) h)
          refine ⟨fun _ => ?_, fun h => absurd rfl h⟩
          refine c_marches (MT_0 MJ) hk2 (by decide) z5J hc (fun k hk => by rw [z6' k hk]; exact (hgg k hk).2) (fun k hk => by have := (hgg k hk).1; omega) (fun K fK k1 => ?_)
          exact hQ2 _ (fr_q1 fJ fK rfl rfl rfl rfl)
        exact hm _ (fun K fK => hQ _ _ fK)
      · refine ⟨fun _ => ?_, fun h => absurd rfl h⟩
        refine b_X11_march_73 (b_X11_whyNotMarch_73 ?_)
        simp (disch := omega) only [pk_mul, nI_add, ksub, kdv, kd8, kd64, kd2, kd3, km8, km64, kt8, ke8, ke64, kcl, kin, kle, klt, keq, up_s, up_n, up_u, true_and, and_true, false_implies, true_implies, not_false_eq_true, not_true_eq_false, m0, g1, kzl, kl3, q3, knl, z4, qm]
        refine c_whyNotMarch (MT_0 hM2) hk2 (by decide) z5 hc (fun h => absurd (fun k hk => by rw [← z6' k hk]; exact h k hk) hg) (fun _ => ?_)
        exact ⟨fun h => absurd h (by decide), fun _ => hQ _ _ f0⟩
theorem q_march_3 {e : am_V} {I : Nat → Nat → Int32} {L : Nat → Nat → Int64} {t : tw} {Q : Int32 → Int32 → (Nat → Nat → Int32) → Prop} (hC : CT t I) (hM : MT t I) (hk : tok t) (hS : SL I L) (hQ : ∀ r J, fr SC FC I J → Q r r J) : C_X10_march_0 e (nI 3) I L (fun r J => C_X11_march_73 e (nI 3) J L (fun r' K => Q r r' K)) := by
  have hC2 := hC
  have hM2 := hM
  have hk2 := hk
  obtain ⟨c0, c1, c2, c3, c4, c5, c6, c7, c8, cS, cD, cN, cA, cT, cM, cR, cF, cO, cH, cL⟩ := hC
  obtain ⟨m0, m1, m2, m3, m4, m5, mS, mU, mL, mF, mO, mH, mA, mK⟩ := hM
  obtain ⟨o0, oT, oZ, oY, oD, o9, oN, o28, oB, oX, oE, oF, oA, oH, oU, oV⟩ := hk
  have f0 : fr SC FC I (va_up I 73 (va_up (I 73) 0 (nI 0))) := fr_73 (fr_refl _ _ _) rfl
  have n3 : (3 : Nat) ≤ 3 := by decide
  have q3 : (3 ≤ 3) = True := eq_true n3
  by_cases h0 : t 0 0 ≤ 0
  · have g0 := eq_true h0
    have g1 : (t 0 3 ≤ 0) = True := eq_true (by omega)
    (refine b_X10_march_0_c3 ?_; simp (disch := omega) only [pk_mul, nI_add, ksub, kdv, kd8, kd64, kd2, kd3, km8, km64, kt8, ke8, ke64, kcl, kin, kle, klt, keq, up_s, up_n, up_u, true_and, and_true, false_implies, true_implies, not_false_eq_true, not_true_eq_false, c0, g0]; refine b_X11_march_73 (b_X11_whyNotMarch_73 ?_); simp (disch := omega) only [pk_mul, nI_add, ksub, kdv, kd8, kd64, kd2, kd3, km8, km64, kt8, ke8, ke64, kcl, kin, kle, klt, keq, up_s, up_n, up_u, true_and, and_true, false_implies, true_implies, not_false_eq_true, not_true_eq_false, m0, g1, kzl, kl3, q3, knl]; exact ⟨fun h => absurd h (by decide), fun _ => hQ _ _ f0⟩)
  · have g0 := eq_false h0
    have g1 : (t 0 3 ≤ 0) = False := eq_false (by omega)
    rcases hS 3 (by decide) with ⟨z1, z2⟩ | ⟨w, c, hw, hc, z1, z2, z3, z4, z5, z6⟩
    · change I 35 1 = nI 0 at z1
      have qT : ((0 : Nat) = 0) = True := eq_true rfl
      have qM : ((-1 : Int32) = (-1 : Int32)) = True := eq_true rfl
      refine b_X10_march_0_c3 ?_
      simp (disch := omega) only [pk_mul, nI_add, ksub, kdv, kd8, kd64, kd2, kd3, km8, km64, kt8, ke8, ke64, kcl, kin, kle, klt, keq, up_s, up_n, up_u, true_and, and_true, false_implies, true_implies, not_false_eq_true, not_true_eq_false, c0, g0, z1, qT]
      refine b_X11_march_73 (b_X11_whyNotMarch_73 ?_)
      simp (disch := omega) only [pk_mul, nI_add, ksub, kdv, kd8, kd64, kd2, kd3, km8, km64, kt8, ke8, ke64, kcl, kin, kle, klt, keq, up_s, up_n, up_u, true_and, and_true, false_implies, true_implies, not_false_eq_true, not_true_eq_false, m0, g1, kzl, kl3, q3, knl, z2, qM]
      exact ⟨fun h => absurd h (by decide), fun _ => hQ _ _ f0⟩
    · change I 35 1 = nI 1 at z1
      change I 35 2 = nI w at z2
      change I 35 3 = nI c at z3
      have z6' : ∀ k, k < c → L 76 (60 * 3 + k) = L 36 k := fun k hk => (z6 k hk).symm
      have qF : ((1 : Nat) = 0) = False := eq_false (by decide)
      have qm := km1 (n := w) (by omega)
      refine b_X10_march_0_c3 ?_
      simp (disch := omega) only [pk_mul, nI_add, ksub, kdv, kd8, kd64, kd2, kd3, km8, km64, kt8, ke8, ke64, kcl, kin, kle, klt, keq, up_s, up_n, up_u, true_and, and_true, false_implies, true_implies, not_false_eq_true, not_true_eq_false, c0, g0, z1, qF]
      refine c_areC_3 z3 hc c0 (fun hg => ?_) (fun hg => ?_)
      · refine ⟨fun h => absurd h (by decide), fun _ => ?_⟩
        have hex : ∃ g : Nat → Nat, ∀ k, k < c → g k < t 0 0 ∧ L 36 k = lN (g k) := by
          refine ⟨fun k => if h : k < c then Classical.choose (gdc_o o0 (hg k h)) else 0, fun k hk => ?_⟩
          show (if h : k < c then Classical.choose (gdc_o o0 (hg k h)) else 0) < _ ∧ _ = lN (if h : k < c then Classical.choose (gdc_o o0 (hg k h)) else 0)
          rw [dif_pos hk]
          exact Classical.choose_spec (gdc_o o0 (hg k hk))
        obtain ⟨g, hgg⟩ := hex
        refine c_marched_3 hC2 hk2 z3 hc (fun k hk => (hgg k hk).2) (fun k hk => by have := (hgg k hk).1; omega) (fun J fJ => ?_)
        have MJ := fr_MT fJ hM2 rfl
        have m0J := MJ.1
        have z4J : J 74 3 = nI w := by rw [fJ.1 74 (by decide) (by decide)]; exact z4
        have z5J : J 75 3 = nI c := by rw [fJ.1 75 (by decide) (by decide)]; exact z5
        have hm : ∀ Q2 : Int32 → (Nat → Nat → Int32) → Prop, (∀ K, fr SC FC I K → Q2 (nI (mrs (t 1) (t 3) g c)) K) → C_X11_march_73 e (nI 3) J L Q2 := by
          intro Q2 hQ2
          refine b_X11_march_73 (b_X11_whyNotMarch_73 ?_)
          simp (disch := omega) only [pk_mul, nI_add, ksub, kdv, kd8, kd64, kd2, kd3, km8, km64, kt8, ke8, ke64, kcl, kin, kle, klt, keq, up_s, up_n, up_u, true_and, and_true, false_implies, true_implies, not_false_eq_true, not_true_eq_false, m0J, g1, kzl, kl3, q3, knl, z4J, qm]
          refine c_whyNotMarch (MT_0 MJ) hk2 (by decide) z5J hc (fun _ => ?_) (fun h => absurd (fun k hk => by rw [z6' k hk]; exact hg k hk) h)
          refine ⟨fun _ => ?_, fun h => absurd rfl h⟩
          refine c_marches (MT_0 MJ) hk2 (by decide) z5J hc (fun k hk => by rw [z6' k hk]; exact (hgg k hk).2) (fun k hk => by have := (hgg k hk).1; omega) (fun K fK k1 => ?_)
          exact hQ2 _ (fr_q1 fJ fK rfl rfl rfl rfl)
        exact hm _ (fun K fK => hQ _ _ fK)
      · refine ⟨fun _ => ?_, fun h => absurd rfl h⟩
        refine b_X11_march_73 (b_X11_whyNotMarch_73 ?_)
        simp (disch := omega) only [pk_mul, nI_add, ksub, kdv, kd8, kd64, kd2, kd3, km8, km64, kt8, ke8, ke64, kcl, kin, kle, klt, keq, up_s, up_n, up_u, true_and, and_true, false_implies, true_implies, not_false_eq_true, not_true_eq_false, m0, g1, kzl, kl3, q3, knl, z4, qm]
        refine c_whyNotMarch (MT_0 hM2) hk2 (by decide) z5 hc (fun h => absurd (fun k hk => by rw [← z6' k hk]; exact h k hk) hg) (fun _ => ?_)
        exact ⟨fun h => absurd h (by decide), fun _ => hQ _ _ f0⟩
theorem q_length_0 {e : am_V} {I : Nat → Nat → Int32} {L : Nat → Nat → Int64} {t : tw} {Q : Int32 → Int32 → (Nat → Nat → Int32) → Prop} (hC : CT t I) (hM : MT t I) (hk : tok t) (hS : SL I L) (hQ : ∀ r J, fr SC FC I J → Q r r J) : C_X10_length_0 e (nI 0) I L (fun r J => C_X11_length_73 e (nI 0) J L (fun r' K => Q r r' K)) := by
  have hC2 := hC
  have hM2 := hM
  have hk2 := hk
  obtain ⟨c0, c1, c2, c3, c4, c5, c6, c7, c8, cS, cD, cN, cA, cT, cM, cR, cF, cO, cH, cL⟩ := hC
  obtain ⟨m0, m1, m2, m3, m4, m5, mS, mU, mL, mF, mO, mH, mA, mK⟩ := hM
  obtain ⟨o0, oT, oZ, oY, oD, o9, oN, o28, oB, oX, oE, oF, oA, oH, oU, oV⟩ := hk
  have f0 : fr SC FC I (va_up I 73 (va_up (I 73) 0 (nI 0))) := fr_73 (fr_refl _ _ _) rfl
  have n3 : (0 : Nat) ≤ 3 := by decide
  have q3 : (0 ≤ 3) = True := eq_true n3
  by_cases h0 : t 0 0 ≤ 0
  · have g0 := eq_true h0
    have g1 : (t 0 3 ≤ 0) = True := eq_true (by omega)
    (refine b_X10_length_0_c0 ?_; simp (disch := omega) only [pk_mul, nI_add, ksub, kdv, kd8, kd64, kd2, kd3, km8, km64, kt8, ke8, ke64, kcl, kin, kle, klt, keq, up_s, up_n, up_u, true_and, and_true, false_implies, true_implies, not_false_eq_true, not_true_eq_false, c0, g0]; refine b_X11_length_73 (b_X11_whyNotMarch_73 ?_); simp (disch := omega) only [pk_mul, nI_add, ksub, kdv, kd8, kd64, kd2, kd3, km8, km64, kt8, ke8, ke64, kcl, kin, kle, klt, keq, up_s, up_n, up_u, true_and, and_true, false_implies, true_implies, not_false_eq_true, not_true_eq_false, m0, g1, kzl, kl3, q3, knl]; exact ⟨fun h => absurd h (by decide), fun _ => hQ _ _ f0⟩)
  · have g0 := eq_false h0
    have g1 : (t 0 3 ≤ 0) = False := eq_false (by omega)
    rcases hS 0 (by decide) with ⟨z1, z2⟩ | ⟨w, c, hw, hc, z1, z2, z3, z4, z5, z6⟩
    · change I 29 1 = nI 0 at z1
      have qT : ((0 : Nat) = 0) = True := eq_true rfl
      have qM : ((-1 : Int32) = (-1 : Int32)) = True := eq_true rfl
      refine b_X10_length_0_c0 ?_
      simp (disch := omega) only [pk_mul, nI_add, ksub, kdv, kd8, kd64, kd2, kd3, km8, km64, kt8, ke8, ke64, kcl, kin, kle, klt, keq, up_s, up_n, up_u, true_and, and_true, false_implies, true_implies, not_false_eq_true, not_true_eq_false, c0, g0, z1, qT]
      refine b_X11_length_73 (b_X11_whyNotMarch_73 ?_)
      simp (disch := omega) only [pk_mul, nI_add, ksub, kdv, kd8, kd64, kd2, kd3, km8, km64, kt8, ke8, ke64, kcl, kin, kle, klt, keq, up_s, up_n, up_u, true_and, and_true, false_implies, true_implies, not_false_eq_true, not_true_eq_false, m0, g1, kzl, kl3, q3, knl, z2, qM]
      exact ⟨fun h => absurd h (by decide), fun _ => hQ _ _ f0⟩
    · change I 29 1 = nI 1 at z1
      change I 29 2 = nI w at z2
      change I 29 3 = nI c at z3
      have z6' : ∀ k, k < c → L 76 (60 * 0 + k) = L 30 k := fun k hk => (z6 k hk).symm
      have qF : ((1 : Nat) = 0) = False := eq_false (by decide)
      have qm := km1 (n := w) (by omega)
      refine b_X10_length_0_c0 ?_
      simp (disch := omega) only [pk_mul, nI_add, ksub, kdv, kd8, kd64, kd2, kd3, km8, km64, kt8, ke8, ke64, kcl, kin, kle, klt, keq, up_s, up_n, up_u, true_and, and_true, false_implies, true_implies, not_false_eq_true, not_true_eq_false, c0, g0, z1, qF]
      refine c_areC_0 z3 hc c0 (fun hg => ?_) (fun hg => ?_)
      · refine ⟨fun h => absurd h (by decide), fun _ => ?_⟩
        have hex : ∃ g : Nat → Nat, ∀ k, k < c → g k < t 0 0 ∧ L 30 k = lN (g k) := by
          refine ⟨fun k => if h : k < c then Classical.choose (gdc_o o0 (hg k h)) else 0, fun k hk => ?_⟩
          show (if h : k < c then Classical.choose (gdc_o o0 (hg k h)) else 0) < _ ∧ _ = lN (if h : k < c then Classical.choose (gdc_o o0 (hg k h)) else 0)
          rw [dif_pos hk]
          exact Classical.choose_spec (gdc_o o0 (hg k hk))
        obtain ⟨g, hgg⟩ := hex
        refine c_marched_0 hC2 hk2 z3 hc (fun k hk => (hgg k hk).2) (fun k hk => by have := (hgg k hk).1; omega) (fun J fJ => ?_)
        have MJ := fr_MT fJ hM2 rfl
        have m0J := MJ.1
        have z4J : J 74 0 = nI w := by rw [fJ.1 74 (by decide) (by decide)]; exact z4
        have z5J : J 75 0 = nI c := by rw [fJ.1 75 (by decide) (by decide)]; exact z5
        have hm : ∀ Q2 : Int32 → (Nat → Nat → Int32) → Prop, (∀ K, fr SC FC I K → Q2 (nI (sm (fun j => t 1 (8 * g j + g (j + 1))) (mrs (t 1) (t 3) g c - 1))) K) → C_X11_length_73 e (nI 0) J L Q2 := by
          intro Q2 hQ2
          refine b_X11_length_73 (b_X11_whyNotMarch_73 ?_)
          simp (disch := omega) only [pk_mul, nI_add, ksub, kdv, kd8, kd64, kd2, kd3, km8, km64, kt8, ke8, ke64, kcl, kin, kle, klt, keq, up_s, up_n, up_u, true_and, and_true, false_implies, true_implies, not_false_eq_true, not_true_eq_false, m0J, g1, kzl, kl3, q3, knl, z4J, qm]
          refine c_whyNotMarch (MT_0 MJ) hk2 (by decide) z5J hc (fun _ => ?_) (fun h => absurd (fun k hk => by rw [z6' k hk]; exact hg k hk) h)
          refine ⟨fun _ => ?_, fun h => absurd rfl h⟩
          refine c_marches (MT_0 MJ) hk2 (by decide) z5J hc (fun k hk => by rw [z6' k hk]; exact (hgg k hk).2) (fun k hk => by have := (hgg k hk).1; omega) (fun K fK k1 => ?_)
          rw [k1]
          exact hQ2 _ (fr_q1 fJ fK rfl rfl rfl rfl)
        have hmb : mrs (t 1) (t 3) g c ≤ c := by
          have h5 := (ff_sp (spj (t 1) (t 3) g) (c - 1)).1
          unfold mrs
          split <;> omega
        have CJ := fr_CT fJ hC2 rfl
        have z3J : J 29 3 = nI c := by rw [fJ.1 29 (by decide) (by decide)]; exact z3
        generalize mrs (t 1) (t 3) g c = M at hm hmb
        by_cases hM0 : M ≤ 1
        · have q7 : (M ≤ 1) = True := eq_true hM0
          refine b_X10_length_0_p32_c0 ?_
          simp (disch := omega) only [pk_mul, nI_add, ksub, kdv, kd8, kd64, kd2, kd3, km8, km64, kt8, ke8, ke64, kcl, kin, kle, klt, keq, up_s, up_n, up_u, true_and, and_true, false_implies, true_implies, not_false_eq_true, not_true_eq_false, q7]
          rw [show M - 1 = 0 from by omega] at hm
          exact hm _ (fun K fK => hQ _ _ fK)
        · refine lp_up (n := M - 1) (S := Nat) (T := fun j v => T_X10_length_0_p32_c0 e (nI M) (nI v) (nI (j + 1)) J L _) (fun j v => v = sm (fun j => t 1 (8 * g j + g (j + 1))) j) ?_ ?_ 0 0 (Nat.zero_le _) rfl
          · intro j v hj hv hnext
            have q7 : (M ≤ j + 1) = False := eq_false (by omega)
            have q8 : j + 1 - 1 = j := by omega
            have g0 := (hgg j (by omega)).1
            have g1 := (hgg (j + 1) (by omega)).1
            have e4 := CJ.2.2.2.2.2.2.2.2.2.1 (8 * g j + g (j + 1)) (by omega)
            refine b_X10_length_0_p32_c0 ?_
            simp (disch := omega) only [pk_mul, nI_add, ksub, kdv, kd8, kd64, kd2, kd3, km8, km64, kt8, ke8, ke64, kcl, kin, kle, klt, keq, up_s, up_n, up_u, true_and, and_true, false_implies, true_implies, not_false_eq_true, not_true_eq_false, q7, q8]
            refine c_cAt_0 z3J hc (by omega) (fun k hk => (hgg k hk).2) ?_
            refine c_cAt_0 z3J hc (by omega) (fun k hk => (hgg k hk).2) ?_
            simp (disch := omega) only [pk_mul, nI_add, ksub, kdv, kd8, kd64, kd2, kd3, km8, km64, kt8, ke8, ke64, kcl, kin, kle, klt, keq, up_s, up_n, up_u, true_and, and_true, false_implies, true_implies, not_false_eq_true, not_true_eq_false, e4]
            refine hnext _ ?_
            show v + t 1 (8 * g j + g (j + 1)) = sm (fun j => t 1 (8 * g j + g (j + 1))) j + t 1 (8 * g j + g (j + 1))
            rw [hv]
          · intro v hv
            have q7 : (M ≤ M - 1 + 1) = True := eq_true (by omega)
            refine b_X10_length_0_p32_c0 ?_
            simp (disch := omega) only [pk_mul, nI_add, ksub, kdv, kd8, kd64, kd2, kd3, km8, km64, kt8, ke8, ke64, kcl, kin, kle, klt, keq, up_s, up_n, up_u, true_and, and_true, false_implies, true_implies, not_false_eq_true, not_true_eq_false, q7]
            rw [hv]
            exact hm _ (fun K fK => hQ _ _ fK)
      · refine ⟨fun _ => ?_, fun h => absurd rfl h⟩
        refine b_X11_length_73 (b_X11_whyNotMarch_73 ?_)
        simp (disch := omega) only [pk_mul, nI_add, ksub, kdv, kd8, kd64, kd2, kd3, km8, km64, kt8, ke8, ke64, kcl, kin, kle, klt, keq, up_s, up_n, up_u, true_and, and_true, false_implies, true_implies, not_false_eq_true, not_true_eq_false, m0, g1, kzl, kl3, q3, knl, z4, qm]
        refine c_whyNotMarch (MT_0 hM2) hk2 (by decide) z5 hc (fun h => absurd (fun k hk => by rw [← z6' k hk]; exact h k hk) hg) (fun _ => ?_)
        exact ⟨fun h => absurd h (by decide), fun _ => hQ _ _ f0⟩
theorem q_length_1 {e : am_V} {I : Nat → Nat → Int32} {L : Nat → Nat → Int64} {t : tw} {Q : Int32 → Int32 → (Nat → Nat → Int32) → Prop} (hC : CT t I) (hM : MT t I) (hk : tok t) (hS : SL I L) (hQ : ∀ r J, fr SC FC I J → Q r r J) : C_X10_length_0 e (nI 1) I L (fun r J => C_X11_length_73 e (nI 1) J L (fun r' K => Q r r' K)) := by
  have hC2 := hC
  have hM2 := hM
  have hk2 := hk
  obtain ⟨c0, c1, c2, c3, c4, c5, c6, c7, c8, cS, cD, cN, cA, cT, cM, cR, cF, cO, cH, cL⟩ := hC
  obtain ⟨m0, m1, m2, m3, m4, m5, mS, mU, mL, mF, mO, mH, mA, mK⟩ := hM
  obtain ⟨o0, oT, oZ, oY, oD, o9, oN, o28, oB, oX, oE, oF, oA, oH, oU, oV⟩ := hk
  have f0 : fr SC FC I (va_up I 73 (va_up (I 73) 0 (nI 0))) := fr_73 (fr_refl _ _ _) rfl
  have n3 : (1 : Nat) ≤ 3 := by decide
  have q3 : (1 ≤ 3) = True := eq_true n3
  by_cases h0 : t 0 0 ≤ 0
  · have g0 := eq_true h0
    have g1 : (t 0 3 ≤ 0) = True := eq_true (by omega)
    (refine b_X10_length_0_c1 ?_; simp (disch := omega) only [pk_mul, nI_add, ksub, kdv, kd8, kd64, kd2, kd3, km8, km64, kt8, ke8, ke64, kcl, kin, kle, klt, keq, up_s, up_n, up_u, true_and, and_true, false_implies, true_implies, not_false_eq_true, not_true_eq_false, c0, g0]; refine b_X11_length_73 (b_X11_whyNotMarch_73 ?_); simp (disch := omega) only [pk_mul, nI_add, ksub, kdv, kd8, kd64, kd2, kd3, km8, km64, kt8, ke8, ke64, kcl, kin, kle, klt, keq, up_s, up_n, up_u, true_and, and_true, false_implies, true_implies, not_false_eq_true, not_true_eq_false, m0, g1, kzl, kl3, q3, knl]; exact ⟨fun h => absurd h (by decide), fun _ => hQ _ _ f0⟩)
  · have g0 := eq_false h0
    have g1 : (t 0 3 ≤ 0) = False := eq_false (by omega)
    rcases hS 1 (by decide) with ⟨z1, z2⟩ | ⟨w, c, hw, hc, z1, z2, z3, z4, z5, z6⟩
    · change I 31 1 = nI 0 at z1
      have qT : ((0 : Nat) = 0) = True := eq_true rfl
      have qM : ((-1 : Int32) = (-1 : Int32)) = True := eq_true rfl
      refine b_X10_length_0_c1 ?_
      simp (disch := omega) only [pk_mul, nI_add, ksub, kdv, kd8, kd64, kd2, kd3, km8, km64, kt8, ke8, ke64, kcl, kin, kle, klt, keq, up_s, up_n, up_u, true_and, and_true, false_implies, true_implies, not_false_eq_true, not_true_eq_false, c0, g0, z1, qT]
      refine b_X11_length_73 (b_X11_whyNotMarch_73 ?_)
      simp (disch := omega) only [pk_mul, nI_add, ksub, kdv, kd8, kd64, kd2, kd3, km8, km64, kt8, ke8, ke64, kcl, kin, kle, klt, keq, up_s, up_n, up_u, true_and, and_true, false_implies, true_implies, not_false_eq_true, not_true_eq_false, m0, g1, kzl, kl3, q3, knl, z2, qM]
      exact ⟨fun h => absurd h (by decide), fun _ => hQ _ _ f0⟩
    · change I 31 1 = nI 1 at z1
      change I 31 2 = nI w at z2
      change I 31 3 = nI c at z3
      have z6' : ∀ k, k < c → L 76 (60 * 1 + k) = L 32 k := fun k hk => (z6 k hk).symm
      have qF : ((1 : Nat) = 0) = False := eq_false (by decide)
      have qm := km1 (n := w) (by omega)
      refine b_X10_length_0_c1 ?_
      simp (disch := omega) only [pk_mul, nI_add, ksub, kdv, kd8, kd64, kd2, kd3, km8, km64, kt8, ke8, ke64, kcl, kin, kle, klt, keq, up_s, up_n, up_u, true_and, and_true, false_implies, true_implies, not_false_eq_true, not_true_eq_false, c0, g0, z1, qF]
      refine c_areC_1 z3 hc c0 (fun hg => ?_) (fun hg => ?_)
      · refine ⟨fun h => absurd h (by decide), fun _ => ?_⟩
        have hex : ∃ g : Nat → Nat, ∀ k, k < c → g k < t 0 0 ∧ L 32 k = lN (g k) := by
          refine ⟨fun k => if h : k < c then Classical.choose (gdc_o o0 (hg k h)) else 0, fun k hk => ?_⟩
          show (if h : k < c then Classical.choose (gdc_o o0 (hg k h)) else 0) < _ ∧ _ = lN (if h : k < c then Classical.choose (gdc_o o0 (hg k h)) else 0)
          rw [dif_pos hk]
          exact Classical.choose_spec (gdc_o o0 (hg k hk))
        obtain ⟨g, hgg⟩ := hex
        refine c_marched_1 hC2 hk2 z3 hc (fun k hk => (hgg k hk).2) (fun k hk => by have := (hgg k hk).1; omega) (fun J fJ => ?_)
        have MJ := fr_MT fJ hM2 rfl
        have m0J := MJ.1
        have z4J : J 74 1 = nI w := by rw [fJ.1 74 (by decide) (by decide)]; exact z4
        have z5J : J 75 1 = nI c := by rw [fJ.1 75 (by decide) (by decide)]; exact z5
        have hm : ∀ Q2 : Int32 → (Nat → Nat → Int32) → Prop, (∀ K, fr SC FC I K → Q2 (nI (sm (fun j => t 1 (8 * g j + g (j + 1))) (mrs (t 1) (t 3) g c - 1))) K) → C_X11_length_73 e (nI 1) J L Q2 := by
          intro Q2 hQ2
          refine b_X11_length_73 (b_X11_whyNotMarch_73 ?_)
          simp (disch := omega) only [pk_mul, nI_add, ksub, kdv, kd8, kd64, kd2, kd3, km8, km64, kt8, ke8, ke64, kcl, kin, kle, klt, keq, up_s, up_n, up_u, true_and, and_true, false_implies, true_implies, not_false_eq_true, not_true_eq_false, m0J, g1, kzl, kl3, q3, knl, z4J, qm]
          refine c_whyNotMarch (MT_0 MJ) hk2 (by decide) z5J hc (fun _ => ?_) (fun h => absurd (fun k hk => by rw [z6' k hk]; exact hg k hk) h)
          refine ⟨fun _ => ?_, fun h => absurd rfl h⟩
          refine c_marches (MT_0 MJ) hk2 (by decide) z5J hc (fun k hk => by rw [z6' k hk]; exact (hgg k hk).2) (fun k hk => by have := (hgg k hk).1; omega) (fun K fK k1 => ?_)
          rw [k1]
          exact hQ2 _ (fr_q1 fJ fK rfl rfl rfl rfl)
        have hmb : mrs (t 1) (t 3) g c ≤ c := by
          have h5 := (ff_sp (spj (t 1) (t 3) g) (c - 1)).1
          unfold mrs
          split <;> omega
        have CJ := fr_CT fJ hC2 rfl
        have z3J : J 31 3 = nI c := by rw [fJ.1 31 (by decide) (by decide)]; exact z3
        generalize mrs (t 1) (t 3) g c = M at hm hmb
        by_cases hM0 : M ≤ 1
        · have q7 : (M ≤ 1) = True := eq_true hM0
          refine b_X10_length_0_p32_c1 ?_
          simp (disch := omega) only [pk_mul, nI_add, ksub, kdv, kd8, kd64, kd2, kd3, km8, km64, kt8, ke8, ke64, kcl, kin, kle, klt, keq, up_s, up_n, up_u, true_and, and_true, false_implies, true_implies, not_false_eq_true, not_true_eq_false, q7]
          rw [show M - 1 = 0 from by omega] at hm
          exact hm _ (fun K fK => hQ _ _ fK)
        · refine lp_up (n := M - 1) (S := Nat) (T := fun j v => T_X10_length_0_p32_c1 e (nI M) (nI v) (nI (j + 1)) J L _) (fun j v => v = sm (fun j => t 1 (8 * g j + g (j + 1))) j) ?_ ?_ 0 0 (Nat.zero_le _) rfl
          · intro j v hj hv hnext
            have q7 : (M ≤ j + 1) = False := eq_false (by omega)
            have q8 : j + 1 - 1 = j := by omega
            have g0 := (hgg j (by omega)).1
            have g1 := (hgg (j + 1) (by omega)).1
            have e4 := CJ.2.2.2.2.2.2.2.2.2.1 (8 * g j + g (j + 1)) (by omega)
            refine b_X10_length_0_p32_c1 ?_
            simp (disch := omega) only [pk_mul, nI_add, ksub, kdv, kd8, kd64, kd2, kd3, km8, km64, kt8, ke8, ke64, kcl, kin, kle, klt, keq, up_s, up_n, up_u, true_and, and_true, false_implies, true_implies, not_false_eq_true, not_true_eq_false, q7, q8]
            refine c_cAt_1 z3J hc (by omega) (fun k hk => (hgg k hk).2) ?_
            refine c_cAt_1 z3J hc (by omega) (fun k hk => (hgg k hk).2) ?_
            simp (disch := omega) only [pk_mul, nI_add, ksub, kdv, kd8, kd64, kd2, kd3, km8, km64, kt8, ke8, ke64, kcl, kin, kle, klt, keq, up_s, up_n, up_u, true_and, and_true, false_implies, true_implies, not_false_eq_true, not_true_eq_false, e4]
            refine hnext _ ?_
            show v + t 1 (8 * g j + g (j + 1)) = sm (fun j => t 1 (8 * g j + g (j + 1))) j + t 1 (8 * g j + g (j + 1))
            rw [hv]
          · intro v hv
            have q7 : (M ≤ M - 1 + 1) = True := eq_true (by omega)
            refine b_X10_length_0_p32_c1 ?_
            simp (disch := omega) only [pk_mul, nI_add, ksub, kdv, kd8, kd64, kd2, kd3, km8, km64, kt8, ke8, ke64, kcl, kin, kle, klt, keq, up_s, up_n, up_u, true_and, and_true, false_implies, true_implies, not_false_eq_true, not_true_eq_false, q7]
            rw [hv]
            exact hm _ (fun K fK => hQ _ _ fK)
      · refine ⟨fun _ => ?_, fun h => absurd rfl h⟩
        refine b_X11_length_73 (b_X11_whyNotMarch_73 ?_)
        simp (disch := omega) only [pk_mul, nI_add, ksub, kdv, kd8, kd64, kd2, kd3, km8, km64, kt8, ke8, ke64, kcl, kin, kle, klt, keq, up_s, up_n, up_u, true_and, and_true, false_implies, true_implies, not_false_eq_true, not_true_eq_false, m0, g1, kzl, kl3, q3, knl, z4, qm]
        refine c_whyNotMarch (MT_0 hM2) hk2 (by decide) z5 hc (fun h => absurd (fun k hk => by rw [← z6' k hk]; exact h k hk) hg) (fun _ => ?_)
        exact ⟨fun h => absurd h (by decide), fun _ => hQ _ _ f0⟩
theorem q_length_2 {e : am_V} {I : Nat → Nat → Int32} {L : Nat → Nat → Int64} {t : tw} {Q : Int32 → Int32 → (Nat → Nat → Int32) → Prop} (hC : CT t I) (hM : MT t I) (hk : tok t) (hS : SL I L) (hQ : ∀ r J, fr SC FC I J → Q r r J) : C_X10_length_0 e (nI 2) I L (fun r J => C_X11_length_73 e (nI 2) J L (fun r' K => Q r r' K)) := by
  have hC2 := hC
  have hM2 := hM
  have hk2 := hk
  obtain ⟨c0, c1, c2, c3, c4, c5, c6, c7, c8, cS, cD, cN, cA, cT, cM, cR, cF, cO, cH, cL⟩ := hC
  obtain ⟨m0, m1, m2, m3, m4, m5, mS, mU, mL, mF, mO, mH, mA, mK⟩ := hM
  obtain ⟨o0, oT, oZ, oY, oD, o9, oN, o28, oB, oX, oE, oF, oA, oH, oU, oV⟩ := hk
  have f0 : fr SC FC I (va_up I 73 (va_up (I 73) 0 (nI 0))) := fr_73 (fr_refl _ _ _) rfl
  have n3 : (2 : Nat) ≤ 3 := by decide
  have q3 : (2 ≤ 3) = True := eq_true n3
  by_cases h0 : t 0 0 ≤ 0
  · have g0 := eq_true h0
    have g1 : (t 0 3 ≤ 0) = True := eq_true (by omega)
    (refine b_X10_length_0_c2 ?_; simp (disch := omega) only [pk_mul, nI_add, ksub, kdv, kd8, kd64, kd2, kd3, km8, km64, kt8, ke8, ke64, kcl, kin, kle, klt, keq, up_s, up_n, up_u, true_and, and_true, false_implies, true_implies, not_false_eq_true, not_true_eq_false, c0, g0]; refine b_X11_length_73 (b_X11_whyNotMarch_73 ?_); simp (disch := omega) only [pk_mul, nI_add, ksub, kdv, kd8, kd64, kd2, kd3, km8, km64, kt8, ke8, ke64, kcl, kin, kle, klt, keq, up_s, up_n, up_u, true_and, and_true, false_implies, true_implies, not_false_eq_true, not_true_eq_false, m0, g1, kzl, kl3, q3, knl]; exact ⟨fun h => absurd h (by decide), fun _ => hQ _ _ f0⟩)
  · have g0 := eq_false h0
    have g1 : (t 0 3 ≤ 0) = False := eq_false (by omega)
    rcases hS 2 (by decide) with ⟨z1, z2⟩ | ⟨w, c, hw, hc, z1, z2, z3, z4, z5, z6⟩
    · change I 33 1 = nI 0 at z1
      have qT : ((0 : Nat) = 0) = True := eq_true rfl
      have qM : ((-1 : Int32) = (-1 : Int32)) = True := eq_true rfl
      refine b_X10_length_0_c2 ?_
      simp (disch := omega) only [pk_mul, nI_add, ksub, kdv, kd8, kd64, kd2, kd3, km8, km64, kt8, ke8, ke64, kcl, kin, kle, klt, keq, up_s, up_n, up_u, true_and, and_true, false_implies, true_implies, not_false_eq_true, not_true_eq_false, c0, g0, z1, qT]
      refine b_X11_length_73 (b_X11_whyNotMarch_73 ?_)
      simp (disch := omega) only [pk_mul, nI_add, ksub, kdv, kd8, kd64, kd2, kd3, km8, km64, kt8, ke8, ke64, kcl, kin, kle, klt, keq, up_s, up_n, up_u, true_and, and_true, false_implies, true_implies, not_false_eq_true, not_true_eq_false, m0, g1, kzl, kl3, q3, knl, z2, qM]
      exact ⟨fun h => absurd h (by decide), fun _ => hQ _ _ f0⟩
    · change I 33 1 = nI 1 at z1
      change I 33 2 = nI w at z2
      change I 33 3 = nI c at z3
      have z6' : ∀ k, k < c → L 76 (60 * 2 + k) = L 34 k := fun k hk => (z6 k hk).symm
      have qF : ((1 : Nat) = 0) = False := eq_false (by decide)
      have qm := km1 (n := w) (by omega)
      refine b_X10_length_0_c2 ?_
      simp (disch := omega) only [pk_mul, nI_add, ksub, kdv, kd8, kd64, kd2, kd3, km8, km64, kt8, ke8, ke64, kcl, kin, kle, klt, keq, up_s, up_n, up_u, true_and, and_true, false_implies, true_implies, not_false_eq_true, not_true_eq_false, c0, g0, z1, qF]
      refine c_areC_2 z3 hc c0 (fun hg => ?_) (fun hg => ?_)
      · refine ⟨fun h => absurd h (by decide), fun _ => ?_⟩
        have hex : ∃ g : Nat → Nat, ∀ k, k < c → g k < t 0 0 ∧ L 34 k = lN (g k) := by
          refine ⟨fun k => if h : k < c then Classical.choose (gdc_o o0 (hg k h)) else 0, fun k hk => ?_⟩
          show (if h : k < c then Classical.choose (gdc_o o0 (hg k h)) else 0) < _ ∧ _ = lN (if h : k < c then Classical.choose (gdc_o o0 (hg k h)) else 0)
          rw [dif_pos hk]
          exact Classical.choose_spec (gdc_o o0 (hg k hk))
        obtain ⟨g, hgg⟩ := hex
        refine c_marched_2 hC2 hk2 z3 hc (fun k hk => (hgg k hk).2) (fun k hk => by have := (hgg k hk).1; omega) (fun J fJ => ?_)
        have MJ := fr_MT fJ hM2 rfl
        have m0J := MJ.1
        have z4J : J 74 2 = nI w := by rw [fJ.1 74 (by decide) (by decide)]; exact z4
        have z5J : J 75 2 = nI c := by rw [fJ.1 75 (by decide) (by decide)]; exact z5
        have hm : ∀ Q2 : Int32 → (Nat → Nat → Int32) → Prop, (∀ K, fr SC FC I K → Q2 (nI (sm (fun j => t 1 (8 * g j + g (j + 1))) (mrs (t 1) (t 3) g c - 1))) K) → C_X11_length_73 e (nI 2) J L Q2 := by
          intro Q2 hQ2
          refine b_X11_length_73 (b_X11_whyNotMarch_73 ?_)
          simp (disch := omega) only [pk_mul, nI_add, ksub, kdv, kd8, kd64, kd2, kd3, km8, km64, kt8, ke8, ke64, kcl, kin, kle, klt, keq, up_s, up_n, up_u, true_and, and_true, false_implies, true_implies, not_false_eq_true, not_true_eq_false, m0J, g1, kzl, kl3, q3, knl, z4J, qm]
          refine c_whyNotMarch (MT_0 MJ) hk2 (by decide) z5J hc (fun _ => ?_) (fun h => absurd (fun k hk => by rw [z6' k hk]; exact hg k hk) h)
          refine ⟨fun _ => ?_, fun h => absurd rfl h⟩
          refine c_marches (MT_0 MJ) hk2 (by decide) z5J hc (fun k hk => by rw [z6' k hk]; exact (hgg k hk).2) (fun k hk => by have := (hgg k hk).1; omega) (fun K fK k1 => ?_)
          rw [k1]
          exact hQ2 _ (fr_q1 fJ fK rfl rfl rfl rfl)
        have hmb : mrs (t 1) (t 3) g c ≤ c := by
          have h5 := (ff_sp (spj (t 1) (t 3) g) (c - 1)).1
          unfold mrs
          split <;> omega
        have CJ := fr_CT fJ hC2 rfl
        have z3J : J 33 3 = nI c := by rw [fJ.1 33 (by decide) (by decide)]; exact z3
        generalize mrs (t 1) (t 3) g c = M at hm hmb
        by_cases hM0 : M ≤ 1
        · have q7 : (M ≤ 1) = True := eq_true hM0
          refine b_X10_length_0_p32_c2 ?_
          simp (disch := omega) only [pk_mul, nI_add, ksub, kdv, kd8, kd64, kd2, kd3, km8, km64, kt8, ke8, ke64, kcl, kin, kle, klt, keq, up_s, up_n, up_u, true_and, and_true, false_implies, true_implies, not_false_eq_true, not_true_eq_false, q7]
          rw [show M - 1 = 0 from by omega] at hm
          exact hm _ (fun K fK => hQ _ _ fK)
        · refine lp_up (n := M - 1) (S := Nat) (T := fun j v => T_X10_length_0_p32_c2 e (nI M) (nI v) (nI (j + 1)) J L _) (fun j v => v = sm (fun j => t 1 (8 * g j + g (j + 1))) j) ?_ ?_ 0 0 (Nat.zero_le _) rfl
          · intro j v hj hv hnext
            have q7 : (M ≤ j + 1) = False := eq_false (by omega)
            have q8 : j + 1 - 1 = j := by omega
            have g0 := (hgg j (by omega)).1
            have g1 := (hgg (j + 1) (by omega)).1
            have e4 := CJ.2.2.2.2.2.2.2.2.2.1 (8 * g j + g (j + 1)) (by omega)
            refine b_X10_length_0_p32_c2 ?_
            simp (disch := omega) only [pk_mul, nI_add, ksub, kdv, kd8, kd64, kd2, kd3, km8, km64, kt8, ke8, ke64, kcl, kin, kle, klt, keq, up_s, up_n, up_u, true_and, and_true, false_implies, true_implies, not_false_eq_true, not_true_eq_false, q7, q8]
            refine c_cAt_2 z3J hc (by omega) (fun k hk => (hgg k hk).2) ?_
            refine c_cAt_2 z3J hc (by omega) (fun k hk => (hgg k hk).2) ?_
            simp (disch := omega) only [pk_mul, nI_add, ksub, kdv, kd8, kd64, kd2, kd3, km8, km64, kt8, ke8, ke64, kcl, kin, kle, klt, keq, up_s, up_n, up_u, true_and, and_true, false_implies, true_implies, not_false_eq_true, not_true_eq_false, e4]
            refine hnext _ ?_
            show v + t 1 (8 * g j + g (j + 1)) = sm (fun j => t 1 (8 * g j + g (j + 1))) j + t 1 (8 * g j + g (j + 1))
            rw [hv]
          · intro v hv
            have q7 : (M ≤ M - 1 + 1) = True := eq_true (by omega)
            refine b_X10_length_0_p32_c2 ?_
            simp (disch := omega) only [pk_mul, nI_add, ksub, kdv, kd8, kd64, kd2, kd3, km8, km64, kt8, ke8, ke64, kcl, kin, kle, klt, keq, up_s, up_n, up_u, true_and, and_true, false_implies, true_implies, not_false_eq_true, not_true_eq_false, q7]
            rw [hv]
            exact hm _ (fun K fK => hQ _ _ fK)
      · refine ⟨fun _ => ?_, fun h => absurd rfl h⟩
        refine b_X11_length_73 (b_X11_whyNotMarch_73 ?_)
        simp (disch := omega) only [pk_mul, nI_add, ksub, kdv, kd8, kd64, kd2, kd3, km8, km64, kt8, ke8, ke64, kcl, kin, kle, klt, keq, up_s, up_n, up_u, true_and, and_true, false_implies, true_implies, not_false_eq_true, not_true_eq_false, m0, g1, kzl, kl3, q3, knl, z4, qm]
        refine c_whyNotMarch (MT_0 hM2) hk2 (by decide) z5 hc (fun h => absurd (fun k hk => by rw [← z6' k hk]; exact h k hk) hg) (fun _ => ?_)
        exact ⟨fun h => absurd h (by decide), fun _ => hQ _ _ f0⟩
theorem q_length_3 {e : am_V} {I : Nat → Nat → Int32} {L : Nat → Nat → Int64} {t : tw} {Q : Int32 → Int32 → (Nat → Nat → Int32) → Prop} (hC : CT t I) (hM : MT t I) (hk : tok t) (hS : SL I L) (hQ : ∀ r J, fr SC FC I J → Q r r J) : C_X10_length_0 e (nI 3) I L (fun r J => C_X11_length_73 e (nI 3) J L (fun r' K => Q r r' K)) := by
  have hC2 := hC
  have hM2 := hM
  have hk2 := hk
  obtain ⟨c0, c1, c2, c3, c4, c5, c6, c7, c8, cS, cD, cN, cA, cT, cM, cR, cF, cO, cH, cL⟩ := hC
  obtain ⟨m0, m1, m2, m3, m4, m5, mS, mU, mL, mF, mO, mH, mA, mK⟩ := hM
  obtain ⟨o0, oT, oZ, oY, oD, o9, oN, o28, oB, oX, oE, oF, oA, oH, oU, oV⟩ := hk
  have f0 : fr SC FC I (va_up I 73 (va_up (I 73) 0 (nI 0))) := fr_73 (fr_refl _ _ _) rfl
  have n3 : (3 : Nat) ≤ 3 := by decide
  have q3 : (3 ≤ 3) = True := eq_true n3
  by_cases h0 : t 0 0 ≤ 0
  · have g0 := eq_true h0
    have g1 : (t 0 3 ≤ 0) = True := eq_true (by omega)
    (refine b_X10_length_0_c3 ?_; simp (disch := omega) only [pk_mul, nI_add, ksub, kdv, kd8, kd64, kd2, kd3, km8, km64, kt8, ke8, ke64, kcl, kin, kle, klt, keq, up_s, up_n, up_u, true_and, and_true, false_implies, true_implies, not_false_eq_true, not_true_eq_false, c0, g0]; refine b_X11_length_73 (b_X11_whyNotMarch_73 ?_); simp (disch := omega) only [pk_mul, nI_add, ksub, kdv, kd8, kd64, kd2, kd3, km8, km64, kt8, ke8, ke64, kcl, kin, kle, klt, keq, up_s, up_n, up_u, true_and, and_true, false_implies, true_implies, not_false_eq_true, not_true_eq_false, m0, g1, kzl, kl3, q3, knl]; exact ⟨fun h => absurd h (by decide), fun _ => hQ _ _ f0⟩)
  · have g0 := eq_false h0
    have g1 : (t 0 3 ≤ 0) = False := eq_false (by omega)
    rcases hS 3 (by decide) with ⟨z1, z2⟩ | ⟨w, c, hw, hc, z1, z2, z3, z4, z5, z6⟩
    · change I 35 1 = nI 0 at z1
      have qT : ((0 : Nat) = 0) = True := eq_true rfl
      have qM : ((-1 : Int32) = (-1 : Int32)) = True := eq_true rfl
      refine b_X10_length_0_c3 ?_
      simp (disch := omega) only [pk_mul, nI_add, ksub, kdv, kd8, kd64, kd2, kd3, km8, km64, kt8, ke8, ke64, kcl, kin, kle, klt, keq, up_s, up_n, up_u, true_and, and_true, false_implies, true_implies, not_false_eq_true, not_true_eq_false, c0, g0, z1, qT]
      refine b_X11_length_73 (b_X11_whyNotMarch_73 ?_)
      simp (disch := omega) only [pk_mul, nI_add, ksub, kdv, kd8, kd64, kd2, kd3, km8, km64, kt8, ke8, ke64, kcl, kin, kle, klt, keq, up_s, up_n, up_u, true_and, and_true, false_implies, true_implies, not_false_eq_true, not_true_eq_false, m0, g1, kzl, kl3, q3, knl, z2, qM]
      exact ⟨fun h => absurd h (by decide), fun _ => hQ _ _ f0⟩
    · change I 35 1 = nI 1 at z1
      change I 35 2 = nI w at z2
      change I 35 3 = nI c at z3
      have z6' : ∀ k, k < c → L 76 (60 * 3 + k) = L 36 k := fun k hk => (z6 k hk).symm
      have qF : ((1 : Nat) = 0) = False := eq_false (by decide)
      have qm := km1 (n := w) (by omega)
      refine b_X10_length_0_c3 ?_
      simp (disch := omega) only [pk_mul, nI_add, ksub, kdv, kd8, kd64, kd2, kd3, km8, km64, kt8, ke8, ke64, kcl, kin, kle, klt, keq, up_s, up_n, up_u, true_and, and_true, false_implies, true_implies, not_false_eq_true, not_true_eq_false, c0, g0, z1, qF]
      refine c_areC_3 z3 hc c0 (fun hg => ?_) (fun hg => ?_)
      · refine ⟨fun h => absurd h (by decide), fun _ => ?_⟩
        have hex : ∃ g : Nat → Nat, ∀ k, k < c → g k < t 0 0 ∧ L 36 k = lN (g k) := by
          refine ⟨fun k => if h : k < c then Classical.choose (gdc_o o0 (hg k h)) else 0, fun k hk => ?_⟩
          show (if h : k < c then Classical.choose (gdc_o o0 (hg k h)) else 0) < _ ∧ _ = lN (if h : k < c then Classical.choose (gdc_o o0 (hg k h)) else 0)
          rw [dif_pos hk]
          exact Classical.choose_spec (gdc_o o0 (hg k hk))
        obtain ⟨g, hgg⟩ := hex
        refine c_marched_3 hC2 hk2 z3 hc (fun k hk => (hgg k hk).2) (fun k hk => by have := (hgg k hk).1; omega) (fun J fJ => ?_)
        have MJ := fr_MT fJ hM2 rfl
        have m0J := MJ.1
        have z4J : J 74 3 = nI w := by rw [fJ.1 74 (by decide) (by decide)]; exact z4
        have z5J : J 75 3 = nI c := by rw [fJ.1 75 (by decide) (by decide)]; exact z5
        have hm : ∀ Q2 : Int32 → (Nat → Nat → Int32) → Prop, (∀ K, fr SC FC I K → Q2 (nI (sm (fun j => t 1 (8 * g j + g (j + 1))) (mrs (t 1) (t 3) g c - 1))) K) → C_X11_length_73 e (nI 3) J L Q2 := by
          intro Q2 hQ2
          refine b_X11_length_73 (b_X11_whyNotMarch_73 ?_)
          simp (disch := omega) only [pk_mul, nI_add, ksub, kdv, kd8, kd64, kd2, kd3, km8, km64, kt8, ke8, ke64, kcl, kin, kle, klt, keq, up_s, up_n, up_u, true_and, and_true, false_implies, true_implies, not_false_eq_true, not_true_eq_false, m0J, g1, kzl, kl3, q3, knl, z4J, qm]
          refine c_whyNotMarch (MT_0 MJ) hk2 (by decide) z5J hc (fun _ => ?_) (fun h => absurd (fun k hk => by rw [z6' k hk]; exact hg k hk) h)
          refine ⟨fun _ => ?_, fun h => absurd rfl h⟩
          refine c_marches (MT_0 MJ) hk2 (by decide) z5J hc (fun k hk => by rw [z6' k hk]; exact (hgg k hk).2) (fun k hk => by have := (hgg k hk).1; omega) (fun K fK k1 => ?_)
          rw [k1]
          exact hQ2 _ (fr_q1 fJ fK rfl rfl rfl rfl)
        have hmb : mrs (t 1) (t 3) g c ≤ c := by
          have h5 := (ff_sp (spj (t 1) (t 3) g) (c - 1)).1
          unfold mrs
          split <;> omega
        have CJ := fr_CT fJ hC2 rfl
        have z3J : J 35 3 = nI c := by rw [fJ.1 35 (by decide) (by decide)]; exact z3
        generalize mrs (t 1) (t 3) g c = M at hm hmb
        by_cases hM0 : M ≤ 1
        · have q7 : (M ≤ 1) = True := eq_true hM0
          refine b_X10_length_0_p32_c3 ?_
          simp (disch := omega) only [pk_mul, nI_add, ksub, kdv, kd8, kd64, kd2, kd3, km8, km64, kt8, ke8, ke64, kcl, kin, kle, klt, keq, up_s, up_n, up_u, true_and, and_true, false_implies, true_implies, not_false_eq_true, not_true_eq_false, q7]
          rw [show M - 1 = 0 from by omega] at hm
          exact hm _ (fun K fK => hQ _ _ fK)
        · refine lp_up (n := M - 1) (S := Nat) (T := fun j v => T_X10_length_0_p32_c3 e (nI M) (nI v) (nI (j + 1)) J L _) (fun j v => v = sm (fun j => t 1 (8 * g j + g (j + 1))) j) ?_ ?_ 0 0 (Nat.zero_le _) rfl
          · intro j v hj hv hnext
            have q7 : (M ≤ j + 1) = False := eq_false (by omega)
            have q8 : j + 1 - 1 = j := by omega
            have g0 := (hgg j (by omega)).1
            have g1 := (hgg (j + 1) (by omega)).1
            have e4 := CJ.2.2.2.2.2.2.2.2.2.1 (8 * g j + g (j + 1)) (by omega)
            refine b_X10_length_0_p32_c3 ?_
            simp (disch := omega) only [pk_mul, nI_add, ksub, kdv, kd8, kd64, kd2, kd3, km8, km64, kt8, ke8, ke64, kcl, kin, kle, klt, keq, up_s, up_n, up_u, true_and, and_true, false_implies, true_implies, not_false_eq_true, not_true_eq_false, q7, q8]
            refine c_cAt_3 z3J hc (by omega) (fun k hk => (hgg k hk).2) ?_
            refine c_cAt_3 z3J hc (by omega) (fun k hk => (hgg k hk).2) ?_
            simp (disch := omega) only [pk_mul, nI_add, ksub, kdv, kd8, kd64, kd2, kd3, km8, km64, kt8, ke8, ke64, kcl, kin, kle, klt, keq, up_s, up_n, up_u, true_and, and_true, false_implies, true_implies, not_false_eq_true, not_true_eq_false, e4]
            refine hnext _ ?_
            show v + t 1 (8 * g j + g (j + 1)) = sm (fun j => t 1 (8 * g j + g (j + 1))) j + t 1 (8 * g j + g (j + 1))
            rw [hv]
          · intro v hv
            have q7 : (M ≤ M - 1 + 1) = True := eq_true (by omega)
            refine b_X10_length_0_p32_c3 ?_
            simp (disch := omega) only [pk_mul, nI_add, ksub, kdv, kd8, kd64, kd2, kd3, km8, km64, kt8, ke8, ke64, kcl, kin, kle, klt, keq, up_s, up_n, up_u, true_and, and_true, false_implies, true_implies, not_false_eq_true, not_true_eq_false, q7]
            rw [hv]
            exact hm _ (fun K fK => hQ _ _ fK)
      · refine ⟨fun _ => ?_, fun h => absurd rfl h⟩
        refine b_X11_length_73 (b_X11_whyNotMarch_73 ?_)
        simp (disch := omega) only [pk_mul, nI_add, ksub, kdv, kd8, kd64, kd2, kd3, km8, km64, kt8, ke8, ke64, kcl, kin, kle, klt, keq, up_s, up_n, up_u, true_and, and_true, false_implies, true_implies, not_false_eq_true, not_true_eq_false, m0, g1, kzl, kl3, q3, knl, z4, qm]
        refine c_whyNotMarch (MT_0 hM2) hk2 (by decide) z5 hc (fun h => absurd (fun k hk => by rw [← z6' k hk]; exact h k hk) hg) (fun _ => ?_)
        exact ⟨fun h => absurd h (by decide), fun _ => hQ _ _ f0⟩
