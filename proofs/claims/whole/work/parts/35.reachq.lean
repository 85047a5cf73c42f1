/-! who is shut in: reach, shut, key, loss; beside, corner, errand, led -/
theorem cn_c {p q : Nat → Bool} {n : Nat} (h : ∀ k, k < n → p k = q k) : cn p n = cn q n := by
  induction n with
  | zero => rfl
  | succ n ih =>
    show cn p n + (if p n = true then 1 else 0) = cn q n + (if q n = true then 1 else 0)
    rw [ih (fun k hk => h k (by omega)), h n (by omega)]
theorem cn_x {p : Nat → Bool} {n N : Nat} (hn : n ≤ N) (h : ∀ k, n ≤ k → k < N → p k = false) : cn p N = cn p n := by
  induction N with
  | zero =>
    have : n = 0 := by omega
    rw [this]
  | succ N ih =>
    by_cases he : n = N + 1
    · rw [he]
    · show cn p N + (if p N = true then 1 else 0) = cn p n
      rw [ih (by omega) (fun k h1 h2 => h k h1 (by omega)), h N (by omega) (by omega)]
      rfl
theorem bc256 : ∀ B, B < 256 → (((((((((nI B) - ((((nI B).toUInt32 >>> ((nI 1).toUInt32 &&& Int32.toUInt32 31)).toInt32) &&& (nI 1431655765))) &&& (nI 858993459)) + (((((nI B) - ((((nI B).toUInt32 >>> ((nI 1).toUInt32 &&& Int32.toUInt32 31)).toInt32) &&& (nI 1431655765))).toUInt32 >>> ((nI 2).toUInt32 &&& Int32.toUInt32 31)).toInt32) &&& (nI 858993459))) + ((((((nI B) - ((((nI B).toUInt32 >>> ((nI 1).toUInt32 &&& Int32.toUInt32 31)).toInt32) &&& (nI 1431655765))) &&& (nI 858993459)) + (((((nI B) - ((((nI B).toUInt32 >>> ((nI 1).toUInt32 &&& Int32.toUInt32 31)).toInt32) &&& (nI 1431655765))).toUInt32 >>> ((nI 2).toUInt32 &&& Int32.toUInt32 31)).toInt32) &&& (nI 858993459))).toUInt32 >>> ((nI 4).toUInt32 &&& Int32.toUInt32 31)).toInt32)) &&& (nI 252645135)) + ((((((((nI B) - ((((nI B).toUInt32 >>> ((nI 1).toUInt32 &&& Int32.toUInt32 31)).toInt32) &&& (nI 1431655765))) &&& (nI 858993459)) + (((((nI B) - ((((nI B).toUInt32 >>> ((nI 1).toUInt32 &&& Int32.toUInt32 31)).toInt32) &&& (nI 1431655765))).toUInt32 >>> ((nI 2).toUInt32 &&& Int32.toUInt32 31)).toInt32) &&& (nI 858993459))) + ((((((nI B) - ((((nI B).toUInt32 >>> ((nI 1).toUInt32 &&& Int32.toUInt32 31)).toInt32) &&& (nI 1431655765))) &&& (nI 858993459)) + (((((nI B) - ((((nI B).toUInt32 >>> ((nI 1).toUInt32 &&& Int32.toUInt32 31)).toInt32) &&& (nI 1431655765))).toUInt32 >>> ((nI 2).toUInt32 &&& Int32.toUInt32 31)).toInt32) &&& (nI 858993459))).toUInt32 >>> ((nI 4).toUInt32 &&& Int32.toUInt32 31)).toInt32)) &&& (nI 252645135)).toUInt32 >>> ((nI 8).toUInt32 &&& Int32.toUInt32 31)).toInt32)) + (((((((((nI B) - ((((nI B).toUInt32 >>> ((nI 1).toUInt32 &&& Int32.toUInt32 31)).toInt32) &&& (nI 1431655765))) &&& (nI 858993459)) + (((((nI B) - ((((nI B).toUInt32 >>> ((nI 1).toUInt32 &&& Int32.toUInt32 31)).toInt32) &&& (nI 1431655765))).toUInt32 >>> ((nI 2).toUInt32 &&& Int32.toUInt32 31)).toInt32) &&& (nI 858993459))) + ((((((nI B) - ((((nI B).toUInt32 >>> ((nI 1).toUInt32 &&& Int32.toUInt32 31)).toInt32) &&& (nI 1431655765))) &&& (nI 858993459)) + (((((nI B) - ((((nI B).toUInt32 >>> ((nI 1).toUInt32 &&& Int32.toUInt32 31)).toInt32) &&& (nI 1431655765))).toUInt32 >>> ((nI 2).toUInt32 &&& Int32.toUInt32 31)).toInt32) &&& (nI 858993459))).toUInt32 >>> ((nI 4).toUInt32 &&& Int32.toUInt32 31)).toInt32)) &&& (nI 252645135)) + ((((((((nI B) - ((((nI B).toUInt32 >>> ((nI 1).toUInt32 &&& Int32.toUInt32 31)).toInt32) &&& (nI 1431655765))) &&& (nI 858993459)) + (((((nI B) - ((((nI B).toUInt32 >>> ((nI 1).toUInt32 &&& Int32.toUInt32 31)).toInt32) &&& (nI 1431655765))).toUInt32 >>> ((nI 2).toUInt32 &&& Int32.toUInt32 31)).toInt32) &&& (nI 858993459))) + ((((((nI B) - ((((nI B).toUInt32 >>> ((nI 1).toUInt32 &&& Int32.toUInt32 31)).toInt32) &&& (nI 1431655765))) &&& (nI 858993459)) + (((((nI B) - ((((nI B).toUInt32 >>> ((nI 1).toUInt32 &&& Int32.toUInt32 31)).toInt32) &&& (nI 1431655765))).toUInt32 >>> ((nI 2).toUInt32 &&& Int32.toUInt32 31)).toInt32) &&& (nI 858993459))).toUInt32 >>> ((nI 4).toUInt32 &&& Int32.toUInt32 31)).toInt32)) &&& (nI 252645135)).toUInt32 >>> ((nI 8).toUInt32 &&& Int32.toUInt32 31)).toInt32)).toUInt32 >>> ((nI 16).toUInt32 &&& Int32.toUInt32 31)).toInt32)) &&& (nI 63)) = nI (cn (fun y => Nat.testBit B y) 8) := by decide +kernel
theorem c_bitCount {e : am_V} {I : Nat → Nat → Int32} {L : Nat → Nat → Int64} {Q : Int32 → (Nat → Nat → Int32) → Prop} {p : Nat → Bool} (hQ : Q (nI (cn p 8)) I) : C_J6_bitCount_0f7a4 e (nI (bts p 8)) I L Q := by
  refine b_J6_bitCount_0f7a4 ?_
  rw [bc256 (bts p 8) (bts_b p 8)]
  have h : cn (fun y => Nat.testBit (bts p 8) y) 8 = cn p 8 := cn_c (fun k hk => by rw [bts_t, decide_eq_true hk, Bool.true_and])
  rw [h]
  exact hQ
theorem rch_n {t : tw} {nw : Nat → Nat} {x y : Nat} (hk : tok t) (hx : x < t 0 0) (h : rch (t 1) nw x y = true) : y < t 0 0 := by
  obtain ⟨o0, oT, oZ, oY, oD, o9, oN, o28, oB, oX, oE, oF, oA, oH, oU, oV⟩ := hk
  rcases rch_i.mp h with h | ⟨a, ha, hr, hay⟩
  · omega
  · have h6 := hr (fun a => a < 64 ∧ 0 < t 1 a) (fun s hs => ⟨hs.1, hs.2.2⟩) (fun a b _ he => ⟨he.2.1, he.2.2.2.2.1⟩)
    have h7 := oN (a / 8) (by omega) (a % 8) (by omega) (by rw [show 8 * (a / 8) + a % 8 = a from by omega]; exact h6.2)
    omega
theorem rch_cn {t : tw} {nw : Nat → Nat} {x : Nat} (hk : tok t) (hx : x < t 0 0) : cn (rch (t 1) nw x) 8 = cn (rch (t 1) nw x) (t 0 0) := by
  refine cn_x hk.1 (fun k h1 h2 => ?_)
  by_cases h : rch (t 1) nw x k = true
  · have := rch_n hk hx h
    omega
  · simpa using h
/-- pairs without a way -/
noncomputable def shS (t : tw) (nw : Nat → Nat) : Nat := sm (fun x => t 0 0 - cn (rch (t 1) nw x) 8) (t 0 0)
theorem shS_b {t : tw} {nw : Nat → Nat} (hk : tok t) : shS t nw ≤ 64 := by
  have h1 : shS t nw ≤ t 0 0 * 8 := sm_bd (fun k _ => by have := hk.1; show t 0 0 - _ ≤ 8; omega)
  have := hk.1
  omega
theorem shx_b {t : tw} {nw : Nat → Nat} {x : Nat} (hk : tok t) (hx : x ≤ t 0 0) : sm (fun x => t 0 0 - cn (rch (t 1) nw x) 8) x ≤ 64 := by
  have h1 : sm (fun x => t 0 0 - cn (rch (t 1) nw x) 8) x ≤ x * 8 := sm_bd (fun k _ => by have := hk.1; show t 0 0 - _ ≤ 8; omega)
  have := hk.1
  omega
theorem c_shut_10 {e : am_V} {I : Nat → Nat → Int32} {L : Nat → Nat → Int64} {Q : Int32 → (Nat → Nat → Int32) → Prop} {t : tw} {nw : Nat → Nat} (hC : CT t I) (hk : tok t) (hr : ∀ k, k < 512 → tB t k = true → I 10 k = nI (nw k)) (hw : ∀ k, k < 512 → nw k ≤ 1000) (hQ : ∀ J, fr [41, 42] [] I J → Q (nI (shS t nw)) J) : C_X9_shutPairs_38_3_10 e I L Q := by
  have c0 := hC.1
  have o0 := hk.1
  refine b_X9_shutPairs_38_3_10 ?_
  refine lp_up (n := t 0 0) (S := Nat × (Nat → Nat → Int32)) (T := fun x s => T_X9_shutPairs_38_3_10_p5 e (nI s.1) (nI x) s.2 L Q) (fun x s => s.1 = sm (fun x => t 0 0 - cn (rch (t 1) nw x) 8) x ∧ fr [41, 42] [] I s.2) ?_ ?_ 0 (0, I) (Nat.zero_le _) ⟨rfl, fr_refl _ _ _⟩
  · rintro x ⟨s, J⟩ hx ⟨i1, i2⟩ hnext
    dsimp only at i1 i2
    have e3 := i2.1 3 (by decide) (by decide)
    have q1 : (t 0 0 ≤ x) = False := eq_false (by omega)
    have hcn := rch_cn (nw := nw) hk hx
    have hcb := cn_n (rch (t 1) nw x) (t 0 0)
    have hsb := shx_b (nw := nw) hk (Nat.le_of_lt hx)
    refine b_X9_shutPairs_38_3_10_p5 ?_
    simp (disch := omega) only [pk_mul, nI_add, ksub, kdv, kd8, kd64, kd2, kd3, km8, km64, kt8, ke8, ke64, kcl, kin, kle, klt, keq, up_s, up_n, up_u, true_and, and_true, false_implies, true_implies, not_false_eq_true, not_true_eq_false, e3, c0, q1]
    refine c_within_10 (fr_CT i2 hC rfl) hk (fun k hk5 hp => by rw [i2.1 10 (by decide) (by decide)]; exact hr k hk5 hp) hw (by omega) (fun K fK => ?_)
    refine c_bitCount ?_
    simp (disch := omega) only [pk_mul, nI_add, ksub, kdv, kd8, kd64, kd2, kd3, km8, km64, kt8, ke8, ke64, kcl, kin, kle, klt, keq, up_s, up_n, up_u, true_and, and_true, false_implies, true_implies, not_false_eq_true, not_true_eq_false]
    refine hnext (s + (t 0 0 - cn (rch (t 1) nw x) 8), K) ⟨?_, fr_trans i2 fK⟩
    show s + _ = sm _ x + _
    rw [i1]
  · rintro ⟨s, J⟩ ⟨i1, i2⟩
    dsimp only at i1 i2
    have e3 := i2.1 3 (by decide) (by decide)
    have q1 : (t 0 0 ≤ t 0 0) = True := eq_true (Nat.le_refl _)
    refine b_X9_shutPairs_38_3_10_p5 ?_
    simp (disch := omega) only [pk_mul, nI_add, ksub, kdv, kd8, kd64, kd2, kd3, km8, km64, kt8, ke8, ke64, kcl, kin, kle, klt, keq, up_s, up_n, up_u, true_and, and_true, false_implies, true_implies, not_false_eq_true, not_true_eq_false, e3, c0, q1]
    rw [i1]
    exact hQ J i2
theorem c_shut_2 {e : am_V} {I : Nat → Nat → Int32} {L : Nat → Nat → Int64} {Q : Int32 → (Nat → Nat → Int32) → Prop} {t : tw} {nw : Nat → Nat} (hC : CT t I) (hk : tok t) (hr : ∀ k, k < 512 → tB t k = true → I 2 k = nI (nw k)) (hw : ∀ k, k < 512 → nw k ≤ 1000) (hQ : ∀ J, fr [41, 42] [] I J → Q (nI (shS t nw)) J) : C_X9_shutPairs_38_3_2 e I L Q := by
  have c0 := hC.1
  have o0 := hk.1
  refine b_X9_shutPairs_38_3_2 ?_
  refine lp_up (n := t 0 0) (S := Nat × (Nat → Nat → Int32)) (T := fun x s => T_X9_shutPairs_38_3_2_p5 e (nI s.1) (nI x) s.2 L Q) (fun x s => s.1 = sm (fun x => t 0 0 - cn (rch (t 1) nw x) 8) x ∧ fr [41, 42] [] I s.2) ?_ ?_ 0 (0, I) (Nat.zero_le _) ⟨rfl, fr_refl _ _ _⟩
  · rintro x ⟨s, J⟩ hx ⟨i1, i2⟩ hnext
    dsimp only at i1 i2
    have e3 := i2.1 3 (by decide) (by decide)
    have q1 : (t 0 0 ≤ x) = False := eq_false (by omega)
    have hcn := rch_cn (nw := nw) hk hx
    have hcb := cn_n (rch (t 1) nw x) (t 0 0)
    have hsb := shx_b (nw := nw) hk (Nat.le_of_lt hx)
    refine b_X9_shutPairs_38_3_2_p5 ?_
    simp (disch := omega) only [pk_mul, nI_add, ksub, kdv, kd8, kd64, kd2, kd3, km8, km64, kt8, ke8, ke64, kcl, kin, kle, klt, keq, up_s, up_n, up_u, true_and, and_true, false_implies, true_implies, not_false_eq_true, not_true_eq_false, e3, c0, q1]
    refine c_within_2 (fr_CT i2 hC rfl) hk (fun k hk5 hp => by rw [i2.1 2 (by decide) (by decide)]; exact hr k hk5 hp) hw (by omega) (fun K fK => ?_)
    refine c_bitCount ?_
    simp (disch := omega) only [pk_mul, nI_add, ksub, kdv, kd8, kd64, kd2, kd3, km8, km64, kt8, ke8, ke64, kcl, kin, kle, klt, keq, up_s, up_n, up_u, true_and, and_true, false_implies, true_implies, not_false_eq_true, not_true_eq_false]
    refine hnext (s + (t 0 0 - cn (rch (t 1) nw x) 8), K) ⟨?_, fr_trans i2 fK⟩
    show s + _ = sm _ x + _
    rw [i1]
  · rintro ⟨s, J⟩ ⟨i1, i2⟩
    dsimp only at i1 i2
    have e3 := i2.1 3 (by decide) (by decide)
    have q1 : (t 0 0 ≤ t 0 0) = True := eq_true (Nat.le_refl _)
    refine b_X9_shutPairs_38_3_2_p5 ?_
    simp (disch := omega) only [pk_mul, nI_add, ksub, kdv, kd8, kd64, kd2, kd3, km8, km64, kt8, ke8, ke64, kcl, kin, kle, klt, keq, up_s, up_n, up_u, true_and, and_true, false_implies, true_implies, not_false_eq_true, not_true_eq_false, e3, c0, q1]
    rw [i1]
    exact hQ J i2
theorem c_shutNow {e : am_V} {I : Nat → Nat → Int32} {L : Nat → Nat → Int64} {Q : Int32 → (Nat → Nat → Int32) → Prop} {t : tw} {nw : Nat → Nat} (hR : mwQ I (t 1) nw (t 0 0)) (hk : tok t) (hQ : ∀ J, fr [88, 89] [27, 28] I J → Q (nI (shS t nw)) J) : C_X11_shutNow_73 e I L Q := by
  have o0 := hk.1
  have hS := tok_sf hk nw 0
  have h80 := hR.1
  refine b_X11_shutNow_73 ?_
  refine lp_up (n := t 0 0) (S := Nat × (Nat → Nat → Int32)) (T := fun x s => T_X11_shutNow_73_p4 e (nI s.1) (nI x) s.2 L Q) (fun x s => s.1 = sm (fun x => t 0 0 - cn (rch (t 1) nw x) 8) x ∧ fr [88, 89] [27, 28] I s.2) ?_ ?_ 0 (0, I) (Nat.zero_le _) ⟨rfl, fr_refl _ _ _⟩
  · rintro x ⟨s, J⟩ hx ⟨i1, i2⟩ hnext
    dsimp only at i1 i2
    have e80 := i2.1 80 (by decide) (by decide)
    have q1 : (t 0 0 ≤ x) = False := eq_false (by omega)
    have hcn := rch_cn (nw := nw) hk hx
    have hsb := shx_b (nw := nw) hk (Nat.le_of_lt hx)
    refine b_X11_shutNow_73_p4 ?_
    simp (disch := omega) only [pk_mul, nI_add, ksub, kdv, kd8, kd64, kd2, kd3, km8, km64, kt8, ke8, ke64, kcl, kin, kle, klt, keq, up_s, up_n, up_u, true_and, and_true, false_implies, true_implies, not_false_eq_true, not_true_eq_false, e80, h80, q1]
    refine lp_up (n := t 0 0) (S := Nat × (Nat → Nat → Int32)) (T := fun y s => T_X11_shutNow_73_p14 e (nI s.1) (nI x) (nI y) s.2 L Q) (fun y s' => s'.1 = s + (y - cn (rch (t 1) nw x) y) ∧ fr [88, 89] [27, 28] I s'.2) ?_ ?_ 0 (s, J) (Nat.zero_le _) ⟨rfl, i2⟩
    · rintro y ⟨s2, J2⟩ hy ⟨k1, k2⟩ hnext2
      dsimp only at k1 k2
      have e80 := k2.1 80 (by decide) (by decide)
      have q2 : (t 0 0 ≤ y) = False := eq_false (by omega)
      have hcb := cn_n (rch (t 1) nw x) y
      refine b_X11_shutNow_73_p14 ?_
      simp (disch := omega) only [pk_mul, nI_add, ksub, kdv, kd8, kd64, kd2, kd3, km8, km64, kt8, ke8, ke64, kcl, kin, kle, klt, keq, up_s, up_n, up_u, true_and, and_true, false_implies, true_implies, not_false_eq_true, not_true_eq_false, e80, h80, q2]
      refine c_waysTo (b := 0) (mwQ_c hR (k2.1 80 (by decide) (by decide)) (k2.1 81 (by decide) (by decide)) (k2.1 87 (by decide) (by decide))) hS.2.1 hx hy (by decide) (fun K fK hK => ?_)
      have hw := wC_r (x := x) (g := y) hS (by omega) (by omega)
      have hle := wC_le (t 1) (tcf nw 0) y x
      have es : cn (rch (t 1) nw x) (y + 1) = cn (rch (t 1) nw x) y + (if rch (t 1) nw x y = true then 1 else 0) := rfl
      refine ⟨fun hl => ?_, fun hl => ?_⟩
      · rw [klt (by omega) (by omega)] at hl
        rw [if_pos (hw.mp hl)] at es
        refine hnext2 (s2 + 0, K) ⟨?_, fr_trans k2 fK⟩
        show s2 + 0 = _
        omega
      · rw [klt (by omega) (by omega)] at hl
        rw [if_neg (fun h => hl (hw.mpr h))] at es
        refine hnext2 (s2 + 1, K) ⟨?_, fr_trans k2 fK⟩
        show s2 + 1 = _
        omega
    · rintro ⟨s2, J2⟩ ⟨k1, k2⟩
      dsimp only at k1 k2
      have e80 := k2.1 80 (by decide) (by decide)
      have q2 : (t 0 0 ≤ t 0 0) = True := eq_true (Nat.le_refl _)
      refine b_X11_shutNow_73_p14 ?_
      simp (disch := omega) only [pk_mul, nI_add, ksub, kdv, kd8, kd64, kd2, kd3, km8, km64, kt8, ke8, ke64, kcl, kin, kle, klt, keq, up_s, up_n, up_u, true_and, and_true, false_implies, true_implies, not_false_eq_true, not_true_eq_false, e80, h80, q2]
      refine hnext (s2, J2) ⟨?_, k2⟩
      show s2 = sm _ x + _
      dsimp only
      rw [hcn, ← i1]
      exact k1
  · rintro ⟨s, J⟩ ⟨i1, i2⟩
    dsimp only at i1 i2
    have e80 := i2.1 80 (by decide) (by decide)
    have q1 : (t 0 0 ≤ t 0 0) = True := eq_true (Nat.le_refl _)
    refine b_X11_shutNow_73_p4 ?_
    simp (disch := omega) only [pk_mul, nI_add, ksub, kdv, kd8, kd64, kd2, kd3, km8, km64, kt8, ke8, ke64, kcl, kin, kle, klt, keq, up_s, up_n, up_u, true_and, and_true, false_implies, true_implies, not_false_eq_true, not_true_eq_false, e80, h80, q1]
    rw [i1]
    exact hQ J i2
theorem q_reach {e : am_V} {I : Nat → Nat → Int32} {L : Nat → Nat → Int64} {t : tw} {Q : Int32 → Int32 → (Nat → Nat → Int32) → Prop} {v1 : Int32} (hC : CT t I) (hM : MT t I) (hk : tok t) (hQ : ∀ r J, fr SC FC I J → Q r r J) : C_X10_reach_0 e v1 I L (fun r J => C_X11_reach_73 e v1 J L (fun r' K => Q r r' K)) := by
  have c0 := hC.1
  have m1 := hM.2.1
  have o0 := hk.1
  have hS := tok_sf hk (t 3) 0
  have f0 : fr SC FC I (va_up I 73 (va_up (I 73) 0 (nI 0))) := fr_73 (fr_refl _ _ _) rfl
  rcases crs v1 (t 0 0) (by omega) with ax | ⟨ax, dx⟩ | ⟨x, hx, rfl⟩
  · (refine b_X10_reach_0 ?_; simp (disch := omega) only [pk_mul, nI_add, ksub, kdv, kd8, kd64, kd2, kd3, km8, km64, kt8, ke8, ke64, kcl, kin, kle, klt, keq, up_s, up_n, up_u, true_and, and_true, false_implies, true_implies, not_false_eq_true, not_true_eq_false, ax, c0, knl]; refine b_X11_reach_73 ?_; simp (disch := omega) only [pk_mul, nI_add, ksub, kdv, kd8, kd64, kd2, kd3, km8, km64, kt8, ke8, ke64, kcl, kin, kle, klt, keq, up_s, up_n, up_u, true_and, and_true, false_implies, true_implies, not_false_eq_true, not_true_eq_false, ax, m1, kzl, kcz, knl]; exact hQ _ _ f0)
  · (refine b_X10_reach_0 ?_; simp (disch := omega) only [pk_mul, nI_add, ksub, kdv, kd8, kd64, kd2, kd3, km8, km64, kt8, ke8, ke64, kcl, kin, kle, klt, keq, up_s, up_n, up_u, true_and, and_true, false_implies, true_implies, not_false_eq_true, not_true_eq_false, ax, dx, c0, knl]; refine b_X11_reach_73 ?_; simp (disch := omega) only [pk_mul, nI_add, ksub, kdv, kd8, kd64, kd2, kd3, km8, km64, kt8, ke8, ke64, kcl, kin, kle, klt, keq, up_s, up_n, up_u, true_and, and_true, false_implies, true_implies, not_false_eq_true, not_true_eq_false, ax, dx, m1, kzl, kcz, knl]; exact hQ _ _ f0)
  · have gx : (t 0 0 ≤ x) = False := eq_false (by omega)
    refine b_X10_reach_0 ?_
    simp (disch := omega) only [pk_mul, nI_add, ksub, kdv, kd8, kd64, kd2, kd3, km8, km64, kt8, ke8, ke64, kcl, kin, kle, klt, keq, up_s, up_n, up_u, true_and, and_true, false_implies, true_implies, not_false_eq_true, not_true_eq_false, c0, knl, gx]
    refine c_within_10 hC hk hC.2.2.2.2.2.2.2.2.2.2.2.2.2.2.2.1 (tok_nw hk) (by omega) (fun J fJ => ?_)
    have MJ := fr_MT fJ hM rfl
    have m1J := MJ.2.1
    refine b_X11_reach_73 ?_
    simp (disch := omega) only [pk_mul, nI_add, ksub, kdv, kd8, kd64, kd2, kd3, km8, km64, kt8, ke8, ke64, kcl, kin, kle, klt, keq, up_s, up_n, up_u, true_and, and_true, false_implies, true_implies, not_false_eq_true, not_true_eq_false, m1J, kzl, kcz, knl, gx]
    refine lp_ux (n := t 0 0) (N := 8) (S := Nat × (Nat → Nat → Int32)) (T := fun y s => T_X11_reach_73_p21 e (nI x) (nI s.1) (nI y) s.2 L _) (fun y s => s.1 = bts (rch (t 1) (t 3) x) y ∧ fr [87, 88, 89] [27, 28] (va_up J 73 (va_up (J 73) 0 (nI 0))) s.2) o0 ?_ ?_ ?_ (0, _) ⟨rfl, fr_refl _ _ _⟩
    · rintro y ⟨s, K⟩ h1 h2 ⟨i1, i2⟩
      dsimp only at i1 i2
      refine ⟨?_, i2⟩
      show s = _
      have h5 : ¬ rch (t 1) (t 3) x y = true := fun h => by
        have := rch_n hk hx h
        omega
      rw [bts_s, if_neg h5, Nat.or_zero]
      exact i1
    · rintro y ⟨s, K⟩ hy ⟨i1, i2⟩ hnext
      dsimp only at i1 i2
      have MK := fr_MT i2 (MT_0 MJ) rfl
      have m1K := MK.2.1
      have q2 : (t 0 0 ≤ y) = False := eq_false (by omega)
      refine b_X11_reach_73_p21 ?_
      simp (disch := omega) only [pk_mul, nI_add, ksub, kdv, kd8, kd64, kd2, kd3, km8, km64, kt8, ke8, ke64, kcl, kin, kle, klt, keq, up_s, up_n, up_u, true_and, and_true, false_implies, true_implies, not_false_eq_true, not_true_eq_false, m1K, q2]
      refine c_wayNow (b := 0) MK hk hx hy (by decide) (fun K2 fK2 hK2 => ?_)
      have hw := wC_r (x := x) (g := y) hS (by omega) (by omega)
      have hle := wC_le (t 1) (tcf (t 3) 0) y x
      have sh := ksh y (by omega)
      simp (disch := omega) only [pk_mul, nI_add, ksub, kdv, kd8, kd64, kd2, kd3, km8, km64, kt8, ke8, ke64, kcl, kin, kle, klt, keq, up_s, up_n, up_u, true_and, and_true, false_implies, true_implies, not_false_eq_true, not_true_eq_false, sh, fa_or]
      refine ⟨fun hl => ?_, fun hl => ?_⟩
      · refine hnext (s ||| 0, K2) ⟨?_, fr_trans i2 fK2⟩
        show s ||| 0 = _
        have h5 : ¬ rch (t 1) (t 3) x y = true := fun h => by
          have := hw.mpr h
          omega
        rw [bts_s, if_neg h5, i1]
      · refine hnext (s ||| 2 ^ y, K2) ⟨?_, fr_trans i2 fK2⟩
        show s ||| 2 ^ y = _
        have h5 : rch (t 1) (t 3) x y = true := hw.mp (by omega)
        rw [bts_s, if_pos h5, i1]
    · rintro ⟨s, K⟩ ⟨i1, i2⟩
      dsimp only at i1 i2
      have MK := fr_MT i2 (MT_0 MJ) rfl
      have m1K := MK.2.1
      have q2 : (t 0 0 ≤ t 0 0) = True := eq_true (Nat.le_refl _)
      refine b_X11_reach_73_p21 ?_
      simp (disch := omega) only [pk_mul, nI_add, ksub, kdv, kd8, kd64, kd2, kd3, km8, km64, kt8, ke8, ke64, kcl, kin, kle, klt, keq, up_s, up_n, up_u, true_and, and_true, false_implies, true_implies, not_false_eq_true, not_true_eq_false, m1K, q2]
      rw [i1]
      exact hQ _ _ (fr_q1 fJ i2 rfl rfl rfl rfl)
theorem q_shut {e : am_V} {I : Nat → Nat → Int32} {L : Nat → Nat → Int64} {t : tw} {Q : Int32 → Int32 → (Nat → Nat → Int32) → Prop} (hC : CT t I) (hM : MT t I) (hk : tok t) (hQ : ∀ r J, fr SC FC I J → Q r r J) : C_X10_shut_0 e I L (fun r J => C_X11_shut_73 e J L (fun r' K => Q r r' K)) := by
  have hC2 := hC
  have hM2 := hM
  have hk2 := hk
  obtain ⟨c0, c1, c2, c3, c4, c5, c6, c7, c8, cS, cD, cN, cA, cT, cM, cR, cF, cO, cH, cL⟩ := hC
  obtain ⟨m0, m1, m2, m3, m4, m5, mS, mU, mL, mF, mO, mH, mA, mK⟩ := hM
  obtain ⟨o0, oT, oZ, oY, oD, o9, oN, o28, oB, oX, oE, oF, oA, oH, oU, oV⟩ := hk
  have f0 : fr SC FC I (va_up I 73 (va_up (I 73) 0 (nI 0))) := fr_73 (fr_refl _ _ _) rfl
  by_cases h0 : t 0 0 ≤ 0
  · have g0 := eq_true h0
    have g1 : (t 0 3 ≤ 0) = True := eq_true (by omega)
    refine b_X10_shut_0 ?_
    simp (disch := omega) only [pk_mul, nI_add, ksub, kdv, kd8, kd64, kd2, kd3, km8, km64, kt8, ke8, ke64, kcl, kin, kle, klt, keq, up_s, up_n, up_u, true_and, and_true, false_implies, true_implies, not_false_eq_true, not_true_eq_false, c0, g0]
    refine b_X11_shut_73 ?_
    simp (disch := omega) only [pk_mul, nI_add, ksub, kdv, kd8, kd64, kd2, kd3, km8, km64, kt8, ke8, ke64, kcl, kin, kle, klt, keq, up_s, up_n, up_u, true_and, and_true, false_implies, true_implies, not_false_eq_true, not_true_eq_false, m0, g1]
    exact hQ _ _ f0
  · have g0 := eq_false h0
    have g1 : (t 0 3 ≤ 0) = False := eq_false (by omega)
    refine b_X10_shut_0 ?_
    simp (disch := omega) only [pk_mul, nI_add, ksub, kdv, kd8, kd64, kd2, kd3, km8, km64, kt8, ke8, ke64, kcl, kin, kle, klt, keq, up_s, up_n, up_u, true_and, and_true, false_implies, true_implies, not_false_eq_true, not_true_eq_false, c0, g0]
    refine c_shut_10 hC2 hk2 cR (tok_nw hk2) (fun J fJ => ?_)
    have MJ := fr_MT fJ hM2 rfl
    have m0J := MJ.1
    refine b_X11_shut_73 ?_
    simp (disch := omega) only [pk_mul, nI_add, ksub, kdv, kd8, kd64, kd2, kd3, km8, km64, kt8, ke8, ke64, kcl, kin, kle, klt, keq, up_s, up_n, up_u, true_and, and_true, false_implies, true_implies, not_false_eq_true, not_true_eq_false, m0J, g1]
    refine c_asLeft (lf := t 3) MJ.2.2.2.2.2.2.2.2.1 (fun F hF => ?_)
    refine c_shutNow (MT_mwQ (MT_0 MJ) hk2 hF (tok_nw hk2)) hk2 (fun K fK => ?_)
    exact hQ _ _ (fr_q1 fJ (fr_trans (fr_up (S := [87, 88, 89]) (F := [27, 28]) (fr_refl _ _ _) rfl) (fr_mono fK rfl rfl)) rfl rfl rfl rfl)
