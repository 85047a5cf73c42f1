/-! uneven arcs, the round -/
def zI (z : Int) : Int32 := Int32.ofInt z
theorem zI_n (n : Nat) : nI n = zI (n : Int) := Int32.ofInt_eq_ofNat.symm
theorem zI_m1 : (-1 : Int32) = zI (-1) := rfl
theorem zI_a (a b : Int) : zI a + zI b = zI (a + b) := (Int32.ofInt_add a b).symm
theorem zI_s (a b : Int) : zI a - zI b = zI (a - b) := (Int32.ofInt_sub a b).symm
theorem zI_t {z : Int} (h1 : -2147483648 ≤ z) (h2 : z < 2147483648) : (zI z).toInt = z := by
  show (Int32.ofInt z).toInt = z
  rw [Int32.toInt_ofInt]
  show Int.bmod z 4294967296 = z
  exact Int.bmod_eq_of_le (by omega) (by omega)
theorem zI_0 {z : Int} (h1 : -2147483648 ≤ z) (h2 : z < 2147483648) : (zI z = nI 0) = (z = 0) := by
  refine propext ⟨fun h => ?_, fun h => by rw [h]; rfl⟩
  have h3 := congrArg Int32.toInt h
  rw [zI_t h1 h2] at h3
  exact h3
/-- whether a turn has a use left -/
def ind (t : tw) (k : Nat) : Nat := if 0 < t 3 k then 1 else 0
theorem ind_1 (t : tw) (k : Nat) : ind t k ≤ 1 := by
  unfold ind
  split <;> omega
def inS (t : tw) (a : Nat) : Nat → Nat := sm (fun z => ind t (64 * z + a))
def ouS (t : tw) (a : Nat) : Nat → Nat := sm (fun z => ind t (8 * a + z))
def inF (t : tw) (a : Nat) : Nat → Nat := sm (fun k => if k % 64 = a then ind t k else 0)
def ouF (t : tw) (a : Nat) : Nat → Nat := sm (fun k => if k / 8 = a then ind t k else 0)
theorem inF_e {t : tw} {a : Nat} (ha : a < 64) : inF t a 512 = inS t a 8 := by
  unfold inF inS
  have h1 := sm_mul (fun k => if k % 64 = a then ind t k else 0) 64 8
  rw [show 64 * 8 = 512 from rfl] at h1
  rw [h1]
  refine sm_c (fun z hz => ?_)
  rw [sm_1 (x := a) ha]
  · rw [if_pos (by omega)]
  · intro j hj hne
    rw [if_neg (by omega)]
theorem ouF_e {t : tw} {a : Nat} (ha : a < 64) : ouF t a 512 = ouS t a 8 := by
  unfold ouF ouS
  have h1 := sm_mul (fun k => if k / 8 = a then ind t k else 0) 8 64
  rw [show 8 * 64 = 512 from rfl] at h1
  rw [h1, sm_1 (x := a) ha]
  · refine sm_c (fun z hz => ?_)
    rw [if_pos (by omega)]
  · intro j hj hne
    refine sm_0 (fun z hz => ?_)
    rw [if_neg (by omega)]
theorem inF_b (t : tw) (a : Nat) {k : Nat} (h : k ≤ 512) : inF t a k ≤ 512 ∧ ouF t a k ≤ 512 := by
  have h1 : inF t a k ≤ k * 1 := sm_bd (fun j _ => by
    split
    · exact ind_1 t j
    · omega)
  have h2 : ouF t a k ≤ k * 1 := sm_bd (fun j _ => by
    split
    · exact ind_1 t j
    · omega)
  omega
/-- uneven arcs -/
def unv (t : tw) : Nat → Nat := cn (fun a => decide (inS t a 8 ≠ ouS t a 8))
theorem c_uneven {e : am_V} {I : Nat → Nat → Int32} {L : Nat → Nat → Int64} {Q : Int32 → (Nat → Nat → Int32) → Prop} {t : tw} (hC : CT t I) (hk : tok t) (hQ : ∀ F, Q (nI (unv t 64)) (va_up I 67 F)) : C_X1_unevenArcs_65_3 e I L Q := by
  obtain ⟨c0, c1, c2, c3, c4, c5, c6, c7, c8, cS, cD, cN, cA, cT, cM, cR, cF, cO, cH, cL⟩ := hC
  obtain ⟨o0, oT, oZ, oY, oD, o9, oN, o28, oB, oX, oE, oF, oA, oH, oU, oV⟩ := hk
  have hlt : (tu t).length ≤ 512 := by rw [cn_fl]; exact cn_n _ _
  refine b_X1_unevenArcs_65_3 (c_fill_67 (fun F0 hF0 => ?_))
  refine lp_fl (l := tu t) rfl (N := 512) (p := tB t) (S := Nat → Int32) (T := fun i F => T_X1_unevenArcs_65_3_p10 e (nI i) (va_up I 67 F) L Q) (fun k F => ∀ a, a < 64 → F a = zI ((inF t a k : Int) - (ouF t a k : Int))) ?_ ?_ ?_ F0 (fun a ha => hF0 a ha)
  · intro k F hk5 hp hi a ha
    have hz := oX k hk5 hp
    have hin : ind t k = 0 := by unfold ind; rw [if_neg (by omega)]
    have h1 : inF t a (k + 1) = inF t a k := by
      show inF t a k + (if k % 64 = a then ind t k else 0) = _
      rw [hin]; split <;> omega
    have h2 : ouF t a (k + 1) = ouF t a k := by
      show ouF t a k + (if k / 8 = a then ind t k else 0) = _
      rw [hin]; split <;> omega
    rw [h1, h2]
    exact hi a ha
  · intro k i F hk5 hp hi hik hv hnext
    have q2 : ((tu t).length ≤ i) = False := eq_false (by omega)
    have e8 : I 8 i = nI k := by rw [cT i hi, hik]
    have er := cR k hk5 hp
    have ub := (oB k hk5).2
    have s1 : ∀ a, inF t a (k + 1) = inF t a k + (if k % 64 = a then ind t k else 0) := fun a => rfl
    have s2 : ∀ a, ouF t a (k + 1) = ouF t a k + (if k / 8 = a then ind t k else 0) := fun a => rfl
    refine b_X1_unevenArcs_65_3_p10 ?_
    simp (disch := omega) only [pk_mul, nI_add, ksub, kdv, kd8, kd64, kd2, kd3, km8, km64, kt8, ke8, ke64, kcl, kin, kle, klt, keq, up_s, up_n, up_u, true_and, and_true, false_implies, true_implies, not_false_eq_true, not_true_eq_false, c6, q2, e8, er]
    refine ⟨fun h0 => hnext F (fun a ha => ?_), fun h0 => hnext _ (fun a ha => ?_)⟩
    · have hin : ind t k = 0 := by unfold ind; rw [if_neg (by omega)]
      rw [s1, s2, hin, hv a ha]
      have z1 : (if k % 64 = a then 0 else 0) = 0 := by split <;> rfl
      have z2 : (if k / 8 = a then 0 else 0) = 0 := by split <;> rfl
      rw [z1, z2]
      rfl
    · have hin : ind t k = 1 := by unfold ind; rw [if_pos (by omega)]
      have hab : k / 8 ≠ k % 64 := by
        intro h
        have h5 := (tB_i.mp hp).1
        have h6 := oD (k / 64) (by omega)
        rw [show 8 * (k / 64) + k / 64 = k / 8 from by omega] at h6
        omega
      rw [s1, s2, hin]
      by_cases h1 : a = k % 64
      · rw [h1, up_s, up_n (fun h => hab h.symm), hv _ (by omega), if_pos rfl, if_neg hab, zI_n 1, zI_a]
        exact congrArg zI (by omega)
      · rw [up_n h1]
        by_cases h2 : a = k / 8
        · rw [h2, up_s, hv _ (by omega), if_neg (fun h => hab h.symm), if_pos rfl, zI_n 1, zI_s]
          exact congrArg zI (by omega)
        · rw [up_n h2, hv a ha, if_neg (fun h => h1 h.symm), if_neg (fun h => h2 h.symm)]
          rfl
  · intro F hv
    have q2 : ((tu t).length ≤ (tu t).length) = True := eq_true (Nat.le_refl _)
    refine b_X1_unevenArcs_65_3_p10 ?_
    simp (disch := omega) only [pk_mul, nI_add, ksub, kdv, kd8, kd64, kd2, kd3, km8, km64, kt8, ke8, ke64, kcl, kin, kle, klt, keq, up_s, up_n, up_u, true_and, and_true, false_implies, true_implies, not_false_eq_true, not_true_eq_false, c6, q2]
    refine lp_up (n := 64) (S := Nat) (T := fun a s => T_X1_unevenArcs_65_3_p70 e (nI s) (nI a) (va_up I 67 F) L Q) (fun a s => s = unv t a) ?_ ?_ 0 0 (Nat.zero_le _) rfl
    · intro a s ha hs hnext
      have q3 : (64 ≤ a) = False := eq_false (by omega)
      have e67 := hv a ha
      obtain ⟨b1, b2⟩ := inF_b t a (Nat.le_refl 512)
      have hz := zI_0 (z := (inF t a 512 : Int) - (ouF t a 512 : Int)) (by omega) (by omega)
      have hs2 : unv t (a + 1) = unv t a + (if decide (inS t a 8 ≠ ouS t a 8) = true then 1 else 0) := rfl
      rw [← inF_e ha, ← ouF_e ha] at hs2
      refine b_X1_unevenArcs_65_3_p70 ?_
      simp (disch := omega) only [pk_mul, nI_add, ksub, kdv, kd8, kd64, kd2, kd3, km8, km64, kt8, ke8, ke64, kcl, kin, kle, klt, keq, up_s, up_n, up_u, true_and, and_true, false_implies, true_implies, not_false_eq_true, not_true_eq_false, q3, e67, hz]
      refine ⟨fun h => hnext s ?_, fun h => hnext (s + 1) ?_⟩
      · rw [if_neg (by rw [decide_eq_true_eq]; omega)] at hs2
        omega
      · rw [hs2, if_pos (by rw [decide_eq_true_eq]; omega), hs]
    · intro s hs
      have q3 : (64 ≤ 64) = True := eq_true (Nat.le_refl _)
      refine b_X1_unevenArcs_65_3_p70 ?_
      simp (disch := omega) only [pk_mul, nI_add, ksub, kdv, kd8, kd64, kd2, kd3, km8, km64, kt8, ke8, ke64, kcl, kin, kle, klt, keq, up_s, up_n, up_u, true_and, and_true, false_implies, true_implies, not_false_eq_true, not_true_eq_false, q3]
      rw [hs]
      exact hQ F
theorem t3_pos {t : tw} (hk : tok t) {k : Nat} (h5 : k < 512) (h : 0 < t 3 k) : tB t k = true := by
  obtain ⟨o0, oT, oZ, oY, oD, o9, oN, o28, oB, oX, oE, oF, oA, oH, oU, oV⟩ := hk
  cases hp : tB t k with
  | true => rfl
  | false =>
    have := oX k h5 hp
    omega
theorem c_oddsOf {e : am_V} {I : Nat → Nat → Int32} {L : Nat → Nat → Int64} {Q : Int32 → (Nat → Nat → Int32) → Prop} {t : tw} {a : Nat} (hM : MT t I) (hk : tok t) (ha : a < 64) (hQ : Q (zI ((ouS t a 8 : Int) - (inS t a 8 : Int))) I) : C_X11_oddsOf_73 e (nI a) I L Q := by
  have hk2 := hk
  obtain ⟨m0, m1, m2, m3, m4, m5, mS, mU, mL, mF, mO, mH, mA, mK⟩ := hM
  obtain ⟨o0, oT, oZ, oY, oD, o9, oN, o28, oB, oX, oE, oF, oA, oH, oU, oV⟩ := hk
  refine b_X11_oddsOf_73 ?_
  refine lp_ux (n := t 0 0) (N := 8) (S := Int) (T := fun z s => T_X11_oddsOf_73_p4 e (nI a) (zI s) (nI z) I L Q) (fun z s => s = (ouS t a z : Int) - (inS t a z : Int)) o0 ?_ ?_ ?_ 0 rfl
  · intro z s h1 h2 hi
    have i1 : ind t (8 * a + z) = 0 := by
      unfold ind
      rw [if_neg]
      intro h
      have h5 := (tB_i.mp (t3_pos hk2 (by omega) h)).2
      have h6 := oN (a % 8) (by omega) z h2 (by rw [show 8 * (a % 8) + z = (8 * a + z) % 64 from by omega]; exact h5)
      omega
    have i2 : ind t (64 * z + a) = 0 := by
      unfold ind
      rw [if_neg]
      intro h
      have h5 := (tB_i.mp (t3_pos hk2 (by omega) h)).1
      have h6 := oN z h2 (a / 8) (by omega) (by rw [show 8 * z + a / 8 = (64 * z + a) / 8 from by omega]; exact h5)
      omega
    have s1 : ouS t a (z + 1) = ouS t a z + ind t (8 * a + z) := rfl
    have s2 : inS t a (z + 1) = inS t a z + ind t (64 * z + a) := rfl
    rw [s1, s2, i1, i2]
    exact hi
  · intro z s hz hi hnext
    have q1 : (t 0 0 ≤ z) = False := eq_false (by omega)
    have e1 := mL (8 * a + z) (by omega)
    have e2 := mL (64 * z + 8 * (a / 8) + a % 8) (by omega)
    have u1 := (oB (8 * a + z) (by omega)).2
    have u2 := (oB (64 * z + 8 * (a / 8) + a % 8) (by omega)).2
    have ea : 64 * z + 8 * (a / 8) + a % 8 = 64 * z + a := by omega
    have s1 : ouS t a (z + 1) = ouS t a z + ind t (8 * a + z) := rfl
    have s2 : inS t a (z + 1) = inS t a z + ind t (64 * z + 8 * (a / 8) + a % 8) := by rw [ea]; rfl
    rw [s1, s2] at hnext
    unfold ind at hnext
    refine b_X11_oddsOf_73_p4 ?_
    simp (disch := omega) only [pk_mul, nI_add, ksub, kdv, kd8, kd64, kd2, kd3, km8, km64, kt8, ke8, ke64, kcl, kin, kle, klt, keq, up_s, up_n, up_u, true_and, and_true, false_implies, true_implies, not_false_eq_true, not_true_eq_false, m1, q1, e1, e2]
    refine ⟨fun h1 => ⟨fun h2 => ?_, fun h2 => ?_⟩, fun h1 => ⟨fun h2 => ?_, fun h2 => ?_⟩⟩
    · rw [zI_n 0, zI_a]
      refine hnext _ ?_
      rw [if_neg (by omega), if_neg (by omega)]
      omega
    · rw [zI_m1, zI_a]
      refine hnext _ ?_
      rw [if_neg (by omega), if_pos (by omega)]
      omega
    · rw [zI_n 1, zI_a]
      refine hnext _ ?_
      rw [if_pos (by omega), if_neg (by omega)]
      omega
    · rw [zI_n 0, zI_a]
      refine hnext _ ?_
      rw [if_pos (by omega), if_pos (by omega)]
      omega
  · intro s hi
    have q1 : (t 0 0 ≤ t 0 0) = True := eq_true (Nat.le_refl _)
    refine b_X11_oddsOf_73_p4 ?_
    simp (disch := omega) only [pk_mul, nI_add, ksub, kdv, kd8, kd64, kd2, kd3, km8, km64, kt8, ke8, ke64, kcl, kin, kle, klt, keq, up_s, up_n, up_u, true_and, and_true, false_implies, true_implies, not_false_eq_true, not_true_eq_false, m1, q1]
    rw [hi]
    exact hQ
theorem ioS_b (t : tw) (a : Nat) : inS t a 8 ≤ 8 ∧ ouS t a 8 ≤ 8 := by
  have h1 : inS t a 8 ≤ 8 * 1 := sm_bd (fun j _ => ind_1 t _)
  have h2 : ouS t a 8 ≤ 8 * 1 := sm_bd (fun j _ => ind_1 t _)
  omega
theorem c_unevenNow {e : am_V} {I : Nat → Nat → Int32} {L : Nat → Nat → Int64} {Q : Int32 → (Nat → Nat → Int32) → Prop} {t : tw} (hM : MT t I) (hk : tok t) (hQ : Q (nI (unv t 64)) I) : C_X11_unevenNow_73 e I L Q := by
  have hM2 := hM
  have hk2 := hk
  obtain ⟨m0, m1, m2, m3, m4, m5, mS, mU, mL, mF, mO, mH, mA, mK⟩ := hM
  obtain ⟨o0, oT, oZ, oY, oD, o9, oN, o28, oB, oX, oE, oF, oA, oH, oU, oV⟩ := hk
  refine b_X11_unevenNow_73 ?_
  refine lp_up (n := 64) (S := Nat) (T := fun a s => T_X11_unevenNow_73_p4 e (nI s) (nI a) I L Q) (fun a s => s = unv t a) ?_ ?_ 0 0 (Nat.zero_le _) rfl
  · intro a s ha hs hnext
    have q3 : (64 ≤ a) = False := eq_false (by omega)
    have ea : 8 * (a / 8) + a % 8 = a := by omega
    have e1 := mS a ha
    have u1 := o9 a ha
    obtain ⟨b1, b2⟩ := ioS_b t a
    have hz := zI_0 (z := (ouS t a 8 : Int) - (inS t a 8 : Int)) (by omega) (by omega)
    have hs2 : unv t (a + 1) = unv t a + (if decide (inS t a 8 ≠ ouS t a 8) = true then 1 else 0) := rfl
    refine b_X11_unevenNow_73_p4 ?_
    simp (disch := omega) only [pk_mul, nI_add, ksub, kdv, kd8, kd64, kd2, kd3, km8, km64, kt8, ke8, ke64, kcl, kin, kle, klt, keq, up_s, up_n, up_u, true_and, and_true, false_implies, true_implies, not_false_eq_true, not_true_eq_false, q3, ea, e1]
    refine ⟨fun h => hnext (s + 0) ?_, fun h => c_oddsOf hM2 hk2 ha ?_⟩
    · have h1 : inS t a 8 = 0 := sm_0 (fun z hz => by
        show ind t (64 * z + a) = 0
        unfold ind
        rw [if_neg]
        intro h9
        have h5 := (tB_i.mp (t3_pos hk2 (by omega) h9)).2
        rw [show (64 * z + a) % 64 = a from by omega] at h5
        omega)
      have h2 : ouS t a 8 = 0 := sm_0 (fun z hz => by
        show ind t (8 * a + z) = 0
        unfold ind
        rw [if_neg]
        intro h9
        have h5 := (tB_i.mp (t3_pos hk2 (by omega) h9)).1
        rw [show (8 * a + z) / 8 = a from by omega] at h5
        omega)
      rw [hs2, if_neg (by rw [decide_eq_true_eq]; omega), hs]
    · rw [hz]
      refine ⟨fun h => hnext (s + 0) ?_, fun h => hnext (s + 1) ?_⟩
      · rw [hs2, if_neg (by rw [decide_eq_true_eq]; omega), hs]
      · rw [hs2, if_pos (by rw [decide_eq_true_eq]; omega), hs]
  · intro s hs
    have q3 : (64 ≤ 64) = True := eq_true (Nat.le_refl _)
    refine b_X11_unevenNow_73_p4 ?_
    simp (disch := omega) only [pk_mul, nI_add, ksub, kdv, kd8, kd64, kd2, kd3, km8, km64, kt8, ke8, ke64, kcl, kin, kle, klt, keq, up_s, up_n, up_u, true_and, and_true, false_implies, true_implies, not_false_eq_true, not_true_eq_false, q3]
    rw [hs]
    exact hQ
theorem q_uneven {e : am_V} {I : Nat → Nat → Int32} {L : Nat → Nat → Int64} {t : tw} {Q : Int32 → Int32 → (Nat → Nat → Int32) → Prop} (hC : CT t I) (hM : MT t I) (hk : tok t) (hQ : ∀ r J, fr SC FC I J → Q r r J) : C_X10_uneven_0 e I L (fun r J => C_X11_uneven_73 e J L (fun r' K => Q r r' K)) := by
  have hC2 := hC
  have hM2 := hM
  have hk2 := hk
  obtain ⟨c0, c1, c2, c3, c4, c5, c6, c7, c8, cS, cD, cN, cA, cT, cM, cR, cF, cO, cH, cL⟩ := hC
  obtain ⟨m0, m1, m2, m3, m4, m5, mS, mU, mL, mF, mO, mH, mA, mK⟩ := hM
  obtain ⟨o0, oT, oZ, oY, oD, o9, oN, o28, oB, oX, oE, oF, oA, oH, oU, oV⟩ := hk
  have f0 : fr SC FC I (va_up I 73 (va_up (I 73) 0 (nI 0))) := fr_73 (fr_refl _ _ _) rfl
  by_cases h0 : t 0 0 ≤ 0
  · have g0 := eq_true h0
    have g1 : (t 0 3 ≤ 0) = True := eq_true (by omega)
    (refine b_X10_uneven_0 ?_; simp (disch := omega) only [pk_mul, nI_add, ksub, kdv, kd8, kd64, kd2, kd3, km8, km64, kt8, ke8, ke64, kcl, kin, kle, klt, keq, up_s, up_n, up_u, true_and, and_true, false_implies, true_implies, not_false_eq_true, not_true_eq_false, c0, g0]; refine b_X11_uneven_73 ?_; simp (disch := omega) only [pk_mul, nI_add, ksub, kdv, kd8, kd64, kd2, kd3, km8, km64, kt8, ke8, ke64, kcl, kin, kle, klt, keq, up_s, up_n, up_u, true_and, and_true, false_implies, true_implies, not_false_eq_true, not_true_eq_false, m0, g1]; exact hQ _ _ f0)
  · have g0 := eq_false h0
    have g1 : (t 0 3 ≤ 0) = False := eq_false (by omega)
    refine b_X10_uneven_0 ?_
    simp (disch := omega) only [pk_mul, nI_add, ksub, kdv, kd8, kd64, kd2, kd3, km8, km64, kt8, ke8, ke64, kcl, kin, kle, klt, keq, up_s, up_n, up_u, true_and, and_true, false_implies, true_implies, not_false_eq_true, not_true_eq_false, c0, g0]
    refine c_uneven hC2 hk2 (fun F => ?_)
    have fJ : fr [67] [] I (va_up I 67 F) := fr_up (fr_refl _ _ _) rfl
    have MJ := fr_MT fJ hM2 rfl
    have m0J := MJ.1
    refine b_X11_uneven_73 ?_
    simp (disch := omega) only [pk_mul, nI_add, ksub, kdv, kd8, kd64, kd2, kd3, km8, km64, kt8, ke8, ke64, kcl, kin, kle, klt, keq, up_s, up_n, up_u, true_and, and_true, false_implies, true_implies, not_false_eq_true, not_true_eq_false, m0J, g1]
    refine c_unevenNow (MT_0 MJ) hk2 ?_
    exact hQ _ _ (fr_q0 fJ rfl rfl)
