/-! demand, dearest -/
noncomputable def dmW (t : tw) (k j : Nat) : Bool := decide (wC (t 1) (tcf (t 3) 0) (t 5 j) (t 4 j) < 100000000) && onW (wR (t 1) (tcf (t 3) 0) (t 5 j) (t 4 j)) k (wL (t 1) (tcf (t 3) 0) (t 5 j) (t 4 j) - 2)
theorem dm_pos {t : tw} {k n : Nat} (hk : tok t) (hn : n ≤ t 0 4) (h : 0 < cn (dmW t k) n) : 0 < t 3 k := by
  obtain ⟨o0, oT, oZ, oY, oD, o9, oN, o28, oB, oX, oE, oF, oA, oH, oU, oV⟩ := hk
  have hS := tok_sf (by exact ⟨o0, oT, oZ, oY, oD, o9, oN, o28, oB, oX, oE, oF, oA, oH, oU, oV⟩) (t 3) 0
  have : ∃ j, j < n ∧ dmW t k j = true := by
    by_cases he : ∃ j, j < n ∧ dmW t k j = true
    · exact he
    · have := cn_z (p := dmW t k) (n := n) (fun j hj => by
        by_cases h2 : dmW t k j = true
        · exact absurd ⟨j, hj, h2⟩ he
        · simpa using h2)
      omega
  obtain ⟨j, hj, hd⟩ := this
  unfold dmW at hd
  rw [Bool.and_eq_true, decide_eq_true_eq] at hd
  obtain ⟨h1, h2⟩ := hd
  obtain ⟨i, hi, hT⟩ := onW_i.mp h2
  have hf := oF j (by omega)
  have h3 := (wR_ok hS (show t 4 j < 8 from by omega) h1).2 i hi
  rw [hT] at h3
  exact tcf_pos h3
theorem c_countDemand {e : am_V} {I : Nat → Nat → Int32} {L : Nat → Nat → Int64} {Q : (Nat → Nat → Int32) → Prop} {t : tw} (hC : CT t I) (hk : tok t) (hQ : ∀ J, fr [2, 38, 39, 40] [] I J → (∀ k, k < 512 → tB t k = true → J 2 k = nI (cn (dmW t k) (t 0 4))) → Q J) : C_X10_countDemand_0 e I L Q := by
  have hC2 := hC
  have hk2 := hk
  obtain ⟨c0, c1, c2, c3, c4, c5, c6, c7, c8, cS, cD, cN, cA, cT, cM, cR, cF, cO, cH, cL⟩ := hC
  obtain ⟨o0, oT, oZ, oY, oD, o9, oN, o28, oB, oX, oE, oF, oA, oH, oU, oV⟩ := hk
  have hS := tok_sf hk2 (t 3) 0
  refine b_X10_countDemand_0 (c_fill_2 (fun F0 hF0 => ?_))
  refine lp_up (n := t 0 4) (S := Nat → Nat → Int32) (T := fun j J => T_X10_countDemand_0_p10 e (nI j) J L Q) (fun j J => fr [2, 38, 39, 40] [] I J ∧ ∀ k, k < 512 → tB t k = true → J 2 k = nI (cn (dmW t k) j)) ?_ ?_ 0 _ (Nat.zero_le _) ⟨fr_up (fr_refl _ _ _) rfl, fun k hk5 _ => hF0 k hk5⟩
  · rintro j J hj ⟨i1, i2⟩ hnext
    have CJ := fr_CT i1 hC2 rfl
    obtain ⟨c0, c1, c2, c3, c4, c5, c6, c7, c8, cS, cD, cN, cA, cT, cM, cR, cF, cO, cH, cL⟩ := CJ
    have CJ := fr_CT i1 hC2 rfl
    obtain ⟨a1, a2, a3, a4⟩ := oF j hj
    have e1 := cF j hj
    have e2 := cO j hj
    have q1 : (t 0 4 ≤ j) = False := eq_false (by omega)
    refine b_X10_countDemand_0_p10 ?_
    simp (disch := omega) only [pk_mul, nI_add, ksub, kdv, kd8, kd64, kd2, kd3, km8, km64, kt8, ke8, ke64, kcl, kin, kle, klt, keq, up_s, up_n, up_u, true_and, and_true, false_implies, true_implies, not_false_eq_true, not_true_eq_false, c7, q1, e1, e2]
    have hstep : ∀ k, cn (dmW t k) (j + 1) = cn (dmW t k) j + (if dmW t k j = true then 1 else 0) := fun k => rfl
    refine c_find_10 (nw := t 3) (m := 0) CJ hk2 cR (tok_nw hk2) (by decide) (by omega) (by omega) (fun K hf fK k1 k2 k3 => ?_) (fun K hf fK => ?_)
    · rw [tcm_0] at hf k1 k2 k3
      refine ⟨fun h => absurd h (by decide), fun _ => ?_⟩
      obtain ⟨l1, l2⟩ := wL_b hS (show t 4 j < 8 from by omega) hf
      obtain ⟨wk, _⟩ := wR_ok hS (show t 4 j < 8 from by omega) hf
      have h2 : ∀ k, k < 512 → tB t k = true → K 2 k = nI (cn (dmW t k) j) := fun k hk5 hp => by
        rw [fK.1 2 (by decide) (by decide)]
        exact i2 k hk5 hp
      have hrun := c_addp_2 (e := e) (I := K) (L := L) (t := t) (nw := fun k => cn (dmW t k) j) (R := wR (t 1) (tcf (t 3) 0) (t 5 j) (t 4 j)) (len := wL (t 1) (tcf (t 3) 0) (t 5 j) (t 4 j)) (m := wL (t 1) (tcf (t 3) 0) (t 5 j) (t 4 j) - 2) (F := K 2) (Q := fun I9 => T_X10_countDemand_0_p10 e (nI (j + 1)) I9 L Q) k3 (by omega) rfl wk (fun k _ => by have := cn_n (dmW t k) j; show cn (dmW t k) j ≤ 1000; omega) h2 (fun F' hF' => ?_)
      · rw [up_id] at hrun
        rw [k1]
        exact hrun
      · refine hnext _ ⟨fr_up (fr_trans i1 (fr_mono fK rfl rfl)) rfl, fun k hk5 hp => ?_⟩
        show F' k = _
        rw [hF' k hk5 hp, hstep]
        have hd : dmW t k j = onW (wR (t 1) (tcf (t 3) 0) (t 5 j) (t 4 j)) k (wL (t 1) (tcf (t 3) 0) (t 5 j) (t 4 j) - 2) := by
          unfold dmW
          rw [decide_eq_true hf, Bool.true_and]
        rw [hd]
        unfold spd
        split <;> rfl
    · rw [tcm_0] at hf
      refine ⟨fun _ => hnext K ⟨fr_trans i1 (fr_mono fK rfl rfl), fun k hk5 hp => ?_⟩, fun h => absurd rfl h⟩
      rw [fK.1 2 (by decide) (by decide), i2 k hk5 hp, hstep]
      have hd : dmW t k j = false := by
        unfold dmW
        rw [decide_eq_false hf, Bool.false_and]
      rw [hd]
      rfl
  · rintro J ⟨i1, i2⟩
    have CJ := fr_CT i1 hC2 rfl
    have c7 := CJ.2.2.2.2.2.2.2.1
    have q1 : (t 0 4 ≤ t 0 4) = True := eq_true (Nat.le_refl _)
    refine b_X10_countDemand_0_p10 ?_
    simp (disch := omega) only [pk_mul, nI_add, ksub, kdv, kd8, kd64, kd2, kd3, km8, km64, kt8, ke8, ke64, kcl, kin, kle, klt, keq, up_s, up_n, up_u, true_and, and_true, false_implies, true_implies, not_false_eq_true, not_true_eq_false, c7, q1]
    exact hQ J i1 i2
theorem c_isOn {e : am_V} {I : Nat → Nat → Int32} {L : Nat → Nat → Int64} {Q : Int32 → (Nat → Nat → Int32) → Prop} {t : tw} {j k : Nat} (hM : MT t I) (hk : tok t) (hj : j < t 0 4) (hk5 : k < 512) (hQ : ∀ J, fr [87, 88, 89] [27, 28] I J → Q (nI (if dmW t k j = true then 1 else 0)) J) : C_X11_isOn_73 e (nI j) (nI k) I L Q := by
  have hM2 := hM
  have hk2 := hk
  obtain ⟨m0, m1, m2, m3, m4, m5, mS, mU, mL, mF, mO, mH, mA, mK⟩ := hM
  obtain ⟨o0, oT, oZ, oY, oD, o9, oN, o28, oB, oX, oE, oF, oA, oH, oU, oV⟩ := hk
  have hS := tok_sf hk2 (t 3) 0
  obtain ⟨a1, a2, a3, a4⟩ := oF j hj
  have e1 := mF j hj
  have e2 := mO j hj
  refine b_X11_isOn_73 ?_
  simp (disch := omega) only [pk_mul, nI_add, ksub, kdv, kd8, kd64, kd2, kd3, km8, km64, kt8, ke8, ke64, kcl, kin, kle, klt, keq, up_s, up_n, up_u, true_and, and_true, false_implies, true_implies, not_false_eq_true, not_true_eq_false, e1, e2]
  refine c_wayNow (b := 0) hM2 hk2 a1 a2 (by decide) (fun J fJ hJ => ?_)
  have g2 := wC_le (t 1) (tcf (t 3) 0) (t 5 j) (t 4 j)
  rw [klt (by omega) (by decide)]
  refine ⟨fun hf => ?_, fun hf => ?_⟩
  · obtain ⟨n1, n2⟩ := hJ hf
    obtain ⟨l1, l2⟩ := wL_b hS (show t 4 j < 8 from by omega) hf
    obtain ⟨wk, _⟩ := wR_ok hS (show t 4 j < 8 from by omega) hf
    have hd : dmW t k j = onW (wR (t 1) (tcf (t 3) 0) (t 5 j) (t 4 j)) k (wL (t 1) (tcf (t 3) 0) (t 5 j) (t 4 j) - 2) := by
      unfold dmW
      rw [decide_eq_true hf, Bool.true_and]
    have h0 := hQ J fJ
    rw [hd] at h0
    generalize wR (t 1) (tcf (t 3) 0) (t 5 j) (t 4 j) = R at n2 wk h0
    generalize wL (t 1) (tcf (t 3) 0) (t 5 j) (t 4 j) = len at n1 n2 wk h0 l1 l2
    refine lp_up (n := len - 2) (S := Unit) (T := fun i _ => T_X11_isOn_73_p33 e (nI k) (nI i) J L Q) (fun i _ => ∀ i', i' < i → wT R i' ≠ k) ?_ ?_ 0 () (Nat.zero_le _) (fun i' h => absurd h (Nat.not_lt_zero _))
    · intro i _ hi hno hnext
      have r0 := n2 i (by omega)
      have r1 := n2 (i + 1) (by omega)
      have r2 := n2 (i + 2) (by omega)
      have z0 := wk.1 i
      have z1 := wk.1 (i + 1)
      have z2 := wk.1 (i + 2)
      have q1 : (len ≤ i + 2) = False := eq_false (by omega)
      refine b_X11_isOn_73_p33 ?_
      simp (disch := omega) only [pk_mul, nI_add, ksub, kdv, kd8, kd64, kd2, kd3, km8, km64, kt8, ke8, ke64, kcl, kin, kle, klt, keq, up_s, up_n, up_u, true_and, and_true, false_implies, true_implies, not_false_eq_true, not_true_eq_false, n1, q1, r0, r1, r2]
      refine ⟨fun he => ?_, fun he => hnext () (fun i' hi' => ?_)⟩
      · rw [if_pos (onW_i.mpr ⟨i, hi, he⟩)] at h0
        exact h0
      · by_cases hii : i' = i
        · rw [hii]; exact he
        · exact hno i' (by omega)
    · intro _ hno
      have q1 : (len ≤ len - 2 + 2) = True := eq_true (by omega)
      refine b_X11_isOn_73_p33 ?_
      simp (disch := omega) only [pk_mul, nI_add, ksub, kdv, kd8, kd64, kd2, kd3, km8, km64, kt8, ke8, ke64, kcl, kin, kle, klt, keq, up_s, up_n, up_u, true_and, and_true, false_implies, true_implies, not_false_eq_true, not_true_eq_false, n1, q1]
      rw [if_neg (fun h => by
        obtain ⟨i, hi, he⟩ := onW_i.mp h
        exact hno i hi he)] at h0
      exact h0
  · have hd : dmW t k j = false := by
      unfold dmW
      rw [decide_eq_false hf, Bool.false_and]
    have h0 := hQ J fJ
    rw [hd, if_neg (by decide)] at h0
    exact h0
theorem c_demandOf {e : am_V} {I : Nat → Nat → Int32} {L : Nat → Nat → Int64} {Q : Int32 → (Nat → Nat → Int32) → Prop} {t : tw} {k : Nat} (hM : MT t I) (hk : tok t) (hk5 : k < 512) (hQ : ∀ J, fr [87, 88, 89] [27, 28] I J → Q (nI (cn (dmW t k) (t 0 4))) J) : C_X11_demandOf_73 e (nI k) I L Q := by
  have hE := hk.2.2.2.2.2.2.2.2.2.2.1
  refine b_X11_demandOf_73 ?_
  refine lp_up (n := t 0 4) (S := Nat × (Nat → Nat → Int32)) (T := fun j s => T_X11_demandOf_73_p4 e (nI k) (nI s.1) (nI j) s.2 L Q) (fun j s => s.1 = cn (dmW t k) j ∧ fr [87, 88, 89] [27, 28] I s.2) ?_ ?_ 0 (0, I) (Nat.zero_le _) ⟨rfl, fr_refl _ _ _⟩
  · rintro j ⟨s, J⟩ hj ⟨i1, i2⟩ hnext
    dsimp only at i1 i2
    have MJ := fr_MT i2 hM rfl
    have m4 := MJ.2.2.2.2.1
    have q1 : (t 0 4 ≤ j) = False := eq_false (by omega)
    have hcb := cn_n (dmW t k) j
    refine b_X11_demandOf_73_p4 ?_
    simp (disch := omega) only [pk_mul, nI_add, ksub, kdv, kd8, kd64, kd2, kd3, km8, km64, kt8, ke8, ke64, kcl, kin, kle, klt, keq, up_s, up_n, up_u, true_and, and_true, false_implies, true_implies, not_false_eq_true, not_true_eq_false, m4, q1]
    refine c_isOn MJ hk hj hk5 (fun K fK => ?_)
    have hstep : cn (dmW t k) (j + 1) = cn (dmW t k) j + (if dmW t k j = true then 1 else 0) := rfl
    rw [if1]
    refine ⟨fun h => hnext (s + 0, K) ⟨?_, fr_trans i2 fK⟩, fun h => hnext (s + 1, K) ⟨?_, fr_trans i2 fK⟩⟩
    · show s + 0 = _
      rw [hstep, h, if_neg (by decide), i1]
    · show s + 1 = _
      have h2 : dmW t k j = true := by simpa using h
      rw [hstep, if_pos h2, i1]
  · rintro ⟨s, J⟩ ⟨i1, i2⟩
    dsimp only at i1 i2
    have MJ := fr_MT i2 hM rfl
    have m4 := MJ.2.2.2.2.1
    have q1 : (t 0 4 ≤ t 0 4) = True := eq_true (Nat.le_refl _)
    refine b_X11_demandOf_73_p4 ?_
    simp (disch := omega) only [pk_mul, nI_add, ksub, kdv, kd8, kd64, kd2, kd3, km8, km64, kt8, ke8, ke64, kcl, kin, kle, klt, keq, up_s, up_n, up_u, true_and, and_true, false_implies, true_implies, not_false_eq_true, not_true_eq_false, m4, q1]
    rw [i1]
    exact hQ J i2
noncomputable def deA (t : tw) : Nat → Nat × Int32 := acc (fun k p => if 0 < t 3 k ∧ p.1 < cn (dmW t k) (t 0 4) then (cn (dmW t k) (t 0 4), nI (100 * (k / 64) + 10 * (k / 8 % 8) + k % 8)) else p) (0, (-1 : Int32))
theorem deA_s (t : tw) (k : Nat) : deA t (k + 1) = if 0 < t 3 k ∧ (deA t k).1 < cn (dmW t k) (t 0 4) then (cn (dmW t k) (t 0 4), nI (100 * (k / 64) + 10 * (k / 8 % 8) + k % 8)) else deA t k := rfl
theorem deA_b {t : tw} (hk : tok t) (k : Nat) : (deA t k).1 ≤ 6 := by
  have hE := hk.2.2.2.2.2.2.2.2.2.2.1
  induction k with
  | zero => exact Nat.zero_le _
  | succ k ih =>
    rw [deA_s]
    split
    · have := cn_n (dmW t k) (t 0 4)
      show cn (dmW t k) (t 0 4) ≤ 6
      omega
    · exact ih
theorem q_dearest {e : am_V} {I : Nat → Nat → Int32} {L : Nat → Nat → Int64} {t : tw} {Q : Int32 → Int32 → (Nat → Nat → Int32) → Prop} (hC : CT t I) (hM : MT t I) (hk : tok t) (hQ : ∀ r J, fr SC FC I J → Q r r J) : C_X10_dearest_0 e I L (fun r J => C_X11_dearest_73 e J L (fun r' K => Q r r' K)) := by
  have hC2 := hC
  have hM2 := hM
  have hk2 := hk
  obtain ⟨c0, c1, c2, c3, c4, c5, c6, c7, c8, cS, cD, cN, cA, cT, cM, cR, cF, cO, cH, cL⟩ := hC
  obtain ⟨m0, m1, m2, m3, m4, m5, mS, mU, mL, mF, mO, mH, mA, mK⟩ := hM
  obtain ⟨o0, oT, oZ, oY, oD, o9, oN, o28, oB, oX, oE, oF, oA, oH, oU, oV⟩ := hk
  have f0 : fr SC FC I (va_up I 73 (va_up (I 73) 0 (nI 0))) := fr_73 (fr_refl _ _ _) rfl
  by_cases h0 : t 0 0 ≤ 0
  · have g0 := eq_true h0
    have g1 : (t 0 3 ≤ 0) = True := eq_true (by omega)
    refine b_X10_dearest_0 ?_
    simp (disch := omega) only [pk_mul, nI_add, ksub, kdv, kd8, kd64, kd2, kd3, km8, km64, kt8, ke8, ke64, kcl, kin, kle, klt, keq, up_s, up_n, up_u, true_and, and_true, false_implies, true_implies, not_false_eq_true, not_true_eq_false, c0, g0]
    refine b_X11_dearest_73 ?_
    simp (disch := omega) only [pk_mul, nI_add, ksub, kdv, kd8, kd64, kd2, kd3, km8, km64, kt8, ke8, ke64, kcl, kin, kle, klt, keq, up_s, up_n, up_u, true_and, and_true, false_implies, true_implies, not_false_eq_true, not_true_eq_false, m0, g1]
    exact hQ _ _ f0
  · have g0 := eq_false h0
    have g1 : (t 0 3 ≤ 0) = False := eq_false (by omega)
    have hlt : (tu t).length ≤ 512 := by rw [cn_fl]; exact cn_n _ _
    refine b_X10_dearest_0 ?_
    simp (disch := omega) only [pk_mul, nI_add, ksub, kdv, kd8, kd64, kd2, kd3, km8, km64, kt8, ke8, ke64, kcl, kin, kle, klt, keq, up_s, up_n, up_u, true_and, and_true, false_implies, true_implies, not_false_eq_true, not_true_eq_false, c0, g0]
    refine c_countDemand hC2 hk2 (fun J fJ hJ => ?_)
    have CJ := fr_CT fJ hC2 rfl
    have j6 := CJ.2.2.2.2.2.2.1
    refine lp_fl (l := tu t) rfl (N := 512) (p := tB t) (S := Nat × Int32) (T := fun i s => T_X10_dearest_0_p23 e (nI s.1) s.2 (nI i) J L _) (fun k s => s = deA t k) ?_ ?_ ?_ (0, (-1 : Int32)) rfl
    · rintro k p hk5 hp i1
      rw [deA_s, if_neg (by have := oX k hk5 hp; omega)]
      exact i1
    · rintro k i p hk5 hp hi hik i1 hnext
      subst i1
      have b2 := deA_b hk2 k
      have j8 := CJ.2.2.2.2.2.2.2.2.2.2.2.2.2.1 i hi
      rw [hik] at j8
      have q2 : ((tu t).length ≤ i) = False := eq_false (by omega)
      have e2 := hJ k hk5 hp
      have hcb := cn_n (dmW t k) (t 0 4)
      refine b_X10_dearest_0_p23 ?_
      simp (disch := omega) only [pk_mul, nI_add, ksub, kdv, kd8, kd64, kd2, kd3, km8, km64, kt8, ke8, ke64, kcl, kin, kle, klt, keq, up_s, up_n, up_u, true_and, and_true, false_implies, true_implies, not_false_eq_true, not_true_eq_false, j6, q2, j8, e2]
      refine ⟨fun hl => hnext (deA t k) ?_, fun hl => hnext (cn (dmW t k) (t 0 4), nI (100 * (k / 64) + 10 * (k / 8 % 8) + k % 8)) ?_⟩
      · rw [deA_s, if_neg (by omega)]
      · have hz := dm_pos hk2 (Nat.le_refl _) (show 0 < cn (dmW t k) (t 0 4) from by omega)
        rw [deA_s, if_pos ⟨hz, by omega⟩]
    · rintro p i1
      subst i1
      have q2 : ((tu t).length ≤ (tu t).length) = True := eq_true (Nat.le_refl _)
      refine b_X10_dearest_0_p23 ?_
      simp (disch := omega) only [pk_mul, nI_add, ksub, kdv, kd8, kd64, kd2, kd3, km8, km64, kt8, ke8, ke64, kcl, kin, kle, klt, keq, up_s, up_n, up_u, true_and, and_true, false_implies, true_implies, not_false_eq_true, not_true_eq_false, j6, q2]
      have MJ := fr_MT fJ hM2 rfl
      have m0J := MJ.1
      refine b_X11_dearest_73 ?_
      simp (disch := omega) only [pk_mul, nI_add, ksub, kdv, kd8, kd64, kd2, kd3, km8, km64, kt8, ke8, ke64, kcl, kin, kle, klt, keq, up_s, up_n, up_u, true_and, and_true, false_implies, true_implies, not_false_eq_true, not_true_eq_false, m0J, g1]
      refine lp_up (n := 512) (S := (Nat × Int32) × (Nat → Nat → Int32)) (T := fun i s => T_X11_dearest_73_p21 e s.1.2 (nI s.1.1) (nI i) s.2 L _) (fun k s => s.1 = deA t k ∧ fr [87, 88, 89] [27, 28] (va_up J 73 (va_up (J 73) 0 (nI 0))) s.2) ?_ ?_ 0 ((0, (-1 : Int32)), _) (Nat.zero_le _) ⟨rfl, fr_refl _ _ _⟩
      · rintro k ⟨p, K⟩ hk5 ⟨i1, i2⟩ hnext
        dsimp only at i1 i2
        subst i1
        have b2 := deA_b hk2 k
        have MK := fr_MT i2 (MT_0 MJ) rfl
        have e83 := MK.2.2.2.2.2.2.2.2.1 k hk5
        have q3 : (512 ≤ k) = False := eq_false (by omega)
        have hB := oB k hk5
        have hcb := cn_n (dmW t k) (t 0 4)
        refine b_X11_dearest_73_p21 ?_
        simp (disch := omega) only [pk_mul, nI_add, ksub, kdv, kd8, kd64, kd2, kd3, km8, km64, kt8, ke8, ke64, kcl, kin, kle, klt, keq, up_s, up_n, up_u, true_and, and_true, false_implies, true_implies, not_false_eq_true, not_true_eq_false, q3, e83]
        refine ⟨fun hz => hnext (deA t k, K) ⟨?_, i2⟩, fun hz => c_demandOf MK hk2 hk5 (fun K2 fK2 => ?_)⟩
        · show deA t k = deA t (k + 1)
          rw [deA_s, if_neg (by omega)]
        · rw [klt (by omega) (by omega)]
          refine ⟨fun hl => hnext ((cn (dmW t k) (t 0 4), nI (100 * (k / 64) + 10 * (k / 8 % 8) + k % 8)), K2) ⟨?_, fr_trans i2 fK2⟩, fun hl => hnext (deA t k, K2) ⟨?_, fr_trans i2 fK2⟩⟩
          · show _ = deA t (k + 1)
            rw [deA_s, if_pos ⟨by omega, hl⟩]
          · show deA t k = deA t (k + 1)
            rw [deA_s, if_neg (by omega)]
      · rintro ⟨p, K⟩ ⟨i1, i3⟩
        dsimp only at i1 i3
        subst i1
        have q3 : (512 ≤ 512) = True := eq_true (Nat.le_refl _)
        refine b_X11_dearest_73_p21 ?_
        simp (disch := omega) only [pk_mul, nI_add, ksub, kdv, kd8, kd64, kd2, kd3, km8, km64, kt8, ke8, ke64, kcl, kin, kle, klt, keq, up_s, up_n, up_u, true_and, and_true, false_implies, true_implies, not_false_eq_true, not_true_eq_false, q3]
        exact hQ _ _ (fr_q1 fJ i3 rfl rfl rfl rfl)
-- DEMAND
theorem q_demand {e : am_V} {I : Nat → Nat → Int32} {L : Nat → Nat → Int64} {t : tw} {Q : Int32 → Int32 → (Nat → Nat → Int32) → Prop} {v1 : Int32} {v2 : Int32} {v3 : Int32} (hC : CT t I) (hM : MT t I) (hk : tok t) (hQ : ∀ r J, fr SC FC I J → Q r r J) : C_X10_demand_0 e v1 v2 v3 I L (fun r J => C_X11_demand_73 e v1 v2 v3 J L (fun r' K => Q r r' K)) := by
  have hC2 := hC
  have hM2 := hM
  have hk2 := hk
  obtain ⟨c0, c1, c2, c3, c4, c5, c6, c7, c8, cS, cD, cN, cA, cT, cM, cR, cF, cO, cH, cL⟩ := hC
  obtain ⟨m0, m1, m2, m3, m4, m5, mS, mU, mL, mF, mO, mH, mA, mK⟩ := hM
  obtain ⟨o0, oT, oZ, oY, oD, o9, oN, o28, oB, oX, oE, oF, oA, oH, oU, oV⟩ := hk
  have f0 : fr SC FC I (va_up I 73 (va_up (I 73) 0 (nI 0))) := fr_73 (fr_refl _ _ _) rfl
  rcases crs v1 (t 0 0) (by omega) with ax | ⟨ax, dx⟩ | ⟨x, hx, rfl⟩
  · (refine b_X10_demand_0 ?_; simp (disch := omega) only [pk_mul, nI_add, ksub, kdv, kd8, kd64, kd2, kd3, km8, km64, kt8, ke8, ke64, kcl, kin, kle, klt, keq, up_s, up_n, up_u, true_and, and_true, false_implies, true_implies, not_false_eq_true, not_true_eq_false, ax, c0, knl]; refine b_X11_demand_73 ?_; simp (disch := omega) only [pk_mul, nI_add, ksub, kdv, kd8, kd64, kd2, kd3, km8, km64, kt8, ke8, ke64, kcl, kin, kle, klt, keq, up_s, up_n, up_u, true_and, and_true, false_implies, true_implies, not_false_eq_true, not_true_eq_false, ax, m1, kzl, kcz, knl]; exact hQ _ _ f0)
  · (refine b_X10_demand_0 ?_; simp (disch := omega) only [pk_mul, nI_add, ksub, kdv, kd8, kd64, kd2, kd3, km8, km64, kt8, ke8, ke64, kcl, kin, kle, klt, keq, up_s, up_n, up_u, true_and, and_true, false_implies, true_implies, not_false_eq_true, not_true_eq_false, ax, dx, c0, knl]; refine b_X11_demand_73 ?_; simp (disch := omega) only [pk_mul, nI_add, ksub, kdv, kd8, kd64, kd2, kd3, km8, km64, kt8, ke8, ke64, kcl, kin, kle, klt, keq, up_s, up_n, up_u, true_and, and_true, false_implies, true_implies, not_false_eq_true, not_true_eq_false, ax, dx, m1, kzl, kcz, knl]; exact hQ _ _ f0)
  · have gx : (t 0 0 ≤ x) = False := eq_false (by omega)
    rcases crs v2 (t 0 0) (by omega) with ay | ⟨ay, dy⟩ | ⟨y, hy, rfl⟩
    · (refine b_X10_demand_0 ?_; simp (disch := omega) only [pk_mul, nI_add, ksub, kdv, kd8, kd64, kd2, kd3, km8, km64, kt8, ke8, ke64, kcl, kin, kle, klt, keq, up_s, up_n, up_u, true_and, and_true, false_implies, true_implies, not_false_eq_true, not_true_eq_false, gx, ay, c0, knl]; refine b_X11_demand_73 ?_; simp (disch := omega) only [pk_mul, nI_add, ksub, kdv, kd8, kd64, kd2, kd3, km8, km64, kt8, ke8, ke64, kcl, kin, kle, klt, keq, up_s, up_n, up_u, true_and, and_true, false_implies, true_implies, not_false_eq_true, not_true_eq_false, gx, ay, m1, kzl, kcz, knl]; exact hQ _ _ f0)
    · (refine b_X10_demand_0 ?_; simp (disch := omega) only [pk_mul, nI_add, ksub, kdv, kd8, kd64, kd2, kd3, km8, km64, kt8, ke8, ke64, kcl, kin, kle, klt, keq, up_s, up_n, up_u, true_and, and_true, false_implies, true_implies, not_false_eq_true, not_true_eq_false, gx, ay, dy, c0, knl]; refine b_X11_demand_73 ?_; simp (disch := omega) only [pk_mul, nI_add, ksub, kdv, kd8, kd64, kd2, kd3, km8, km64, kt8, ke8, ke64, kcl, kin, kle, klt, keq, up_s, up_n, up_u, true_and, and_true, false_implies, true_implies, not_false_eq_true, not_true_eq_false, gx, ay, dy, m1, kzl, kcz, knl]; exact hQ _ _ f0)
    · have gy : (t 0 0 ≤ y) = False := eq_false (by omega)
      rcases crs v3 (t 0 0) (by omega) with az | ⟨az, dz⟩ | ⟨z, hz, rfl⟩
      · (refine b_X10_demand_0 ?_; simp (disch := omega) only [pk_mul, nI_add, ksub, kdv, kd8, kd64, kd2, kd3, km8, km64, kt8, ke8, ke64, kcl, kin, kle, klt, keq, up_s, up_n, up_u, true_and, and_true, false_implies, true_implies, not_false_eq_true, not_true_eq_false, gx, gy, az, c0, knl]; refine b_X11_demand_73 ?_; simp (disch := omega) only [pk_mul, nI_add, ksub, kdv, kd8, kd64, kd2, kd3, km8, km64, kt8, ke8, ke64, kcl, kin, kle, klt, keq, up_s, up_n, up_u, true_and, and_true, false_implies, true_implies, not_false_eq_true, not_true_eq_false, gx, gy, az, m1, kzl, kcz, knl]; exact hQ _ _ f0)
      · (refine b_X10_demand_0 ?_; simp (disch := omega) only [pk_mul, nI_add, ksub, kdv, kd8, kd64, kd2, kd3, km8, km64, kt8, ke8, ke64, kcl, kin, kle, klt, keq, up_s, up_n, up_u, true_and, and_true, false_implies, true_implies, not_false_eq_true, not_true_eq_false, gx, gy, az, dz, c0, knl]; refine b_X11_demand_73 ?_; simp (disch := omega) only [pk_mul, nI_add, ksub, kdv, kd8, kd64, kd2, kd3, km8, km64, kt8, ke8, ke64, kcl, kin, kle, klt, keq, up_s, up_n, up_u, true_and, and_true, false_implies, true_implies, not_false_eq_true, not_true_eq_false, gx, gy, az, dz, m1, kzl, kcz, knl]; exact hQ _ _ f0)
      · have gz : (t 0 0 ≤ z) = False := eq_false (by omega)
        have e1 := cS (8 * x + y) (by omega)
        have e2 := mS (8 * x + y) (by omega)
        have e3 := cS (8 * y + z) (by omega)
        have e4 := mS (8 * y + z) (by omega)
        have u1 := o9 (8 * x + y) (by omega)
        have u2 := o9 (8 * y + z) (by omega)
        by_cases h1 : t 1 (8 * x + y) ≤ 0
        · have q1 := eq_true h1
          refine b_X10_demand_0 ?_
          simp (disch := omega) only [pk_mul, nI_add, ksub, kdv, kd8, kd64, kd2, kd3, km8, km64, kt8, ke8, ke64, kcl, kin, kle, klt, keq, up_s, up_n, up_u, true_and, and_true, false_implies, true_implies, not_false_eq_true, not_true_eq_false, c0, knl, q1, e1, e3, gx, gy, gz]
          refine b_X11_demand_73 ?_
          simp (disch := omega) only [pk_mul, nI_add, ksub, kdv, kd8, kd64, kd2, kd3, km8, km64, kt8, ke8, ke64, kcl, kin, kle, klt, keq, up_s, up_n, up_u, true_and, and_true, false_implies, true_implies, not_false_eq_true, not_true_eq_false, m1, kzl, kcz, knl, q1, e2, e4, gx, gy, gz]
          exact hQ _ _ f0
        · have q1 := eq_false h1
          by_cases h2 : t 1 (8 * y + z) ≤ 0
          · have q2 := eq_true h2
            refine b_X10_demand_0 ?_
            simp (disch := omega) only [pk_mul, nI_add, ksub, kdv, kd8, kd64, kd2, kd3, km8, km64, kt8, ke8, ke64, kcl, kin, kle, klt, keq, up_s, up_n, up_u, true_and, and_true, false_implies, true_implies, not_false_eq_true, not_true_eq_false, c0, knl, q1, q2, e1, e3, gx, gy, gz]
            refine b_X11_demand_73 ?_
            simp (disch := omega) only [pk_mul, nI_add, ksub, kdv, kd8, kd64, kd2, kd3, km8, km64, kt8, ke8, ke64, kcl, kin, kle, klt, keq, up_s, up_n, up_u, true_and, and_true, false_implies, true_implies, not_false_eq_true, not_true_eq_false, m1, kzl, kcz, knl, q1, q2, e2, e4, gx, gy, gz]
            exact hQ _ _ f0
          · have q2 := eq_false h2
            have hT : tB t (64 * x + 8 * y + z) = true := tB_x (by omega) (by omega) (by omega) (by omega) (by omega)
            refine b_X10_demand_0 ?_
            simp (disch := omega) only [pk_mul, nI_add, ksub, kdv, kd8, kd64, kd2, kd3, km8, km64, kt8, ke8, ke64, kcl, kin, kle, klt, keq, up_s, up_n, up_u, true_and, and_true, false_implies, true_implies, not_false_eq_true, not_true_eq_false, c0, knl, q1, q2, e1, e3, gx, gy, gz]
            refine c_countDemand hC2 hk2 (fun J fJ hJ => ?_)
            have e9 := hJ (64 * x + 8 * y + z) (by omega) hT
            simp (disch := omega) only [pk_mul, nI_add, ksub, kdv, kd8, kd64, kd2, kd3, km8, km64, kt8, ke8, ke64, kcl, kin, kle, klt, keq, up_s, up_n, up_u, true_and, and_true, false_implies, true_implies, not_false_eq_true, not_true_eq_false, e9]
            have MJ := fr_MT fJ hM2 rfl
            have m1J := MJ.2.1
            have e2 := MJ.2.2.2.2.2.2.1 (8 * x + y) (by omega)
            have e4 := MJ.2.2.2.2.2.2.1 (8 * y + z) (by omega)
            refine b_X11_demand_73 ?_
            simp (disch := omega) only [pk_mul, nI_add, ksub, kdv, kd8, kd64, kd2, kd3, km8, km64, kt8, ke8, ke64, kcl, kin, kle, klt, keq, up_s, up_n, up_u, true_and, and_true, false_implies, true_implies, not_false_eq_true, not_true_eq_false, m1J, kzl, kcz, knl, q1, q2, e2, e4, gx, gy, gz]
            refine c_demandOf (MT_0 MJ) hk2 (by omega) (fun K fK => ?_)
            exact hQ _ _ (fr_q1 fJ fK rfl rfl rfl rfl)
