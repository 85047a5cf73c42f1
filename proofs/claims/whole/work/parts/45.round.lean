/-! the round -/
theorem c_follow {e : am_V} {I : Nat → Nat → Int32} {L : Nat → Nat → Int64} {Q : (Nat → Nat → Int32) → Prop} {t : tw} {a0 : Nat} (hC : CT t I) (hk : tok t) (ha0 : a0 < 64) (hs0 : 0 < t 1 a0) (hQ : ∀ J (sn : Nat → Bool), fr [68, 69] [] I J → (∀ a, a < 64 → J 69 a = nI (if sn a = true then 1 else 0)) → (∀ a, a < 64 → (sn a = true ↔ RC (fun s => s = a0) (rE (t 1) (t 3)) a)) → Q J) : C_X1_follow_65_3 e (nI a0) I L Q := by
  have hrE : ∀ a b, rE (t 1) (t 3) a b → a < 64 ∧ b < 64 := fun a b h => ⟨h.1, h.2.1⟩
  have hw := tok_nw hk
  refine b_X1_follow_65_3 (c_fillz_69 (fun F0 hF0 => ?_))
  simp (disch := omega) only [pk_mul, nI_add, ksub, kdv, kd8, kd64, kd2, kd3, km8, km64, kt8, ke8, ke64, kcl, kin, kle, klt, keq, up_s, up_n, up_u, true_and, and_true, false_implies, true_implies, not_false_eq_true, not_true_eq_false]
  have hCt : ∀ J, fr [68, 69] [] I J → CT t J := fun J f => fr_CT f hC rfl
  have hln : ∀ y, (nb t y).length ≤ 8 := fun y => by rw [cn_fl]; exact cn_n _ _
  have h27 : ∀ m k z sn q J, 64 - k = m → k ≤ z → fr [68, 69] [] I J → bfR 69 68 sn q z J → bfs (fun s => s = a0) (rE (t 1) (t 3)) sn q z → sn a0 = true → bfC (rE (t 1) (t 3)) sn q k → T_X1_follow_65_3_p27 e (nI z) (nI k) J L Q := by
    intro m
    induction m using Nat.strongRecOn with
    | ind m ih =>
      intro k z sn q J hm hkz f hR hB hS0 hCl
      have hz := bfs_le hB
      refine b_X1_follow_65_3_p27 ?_
      by_cases hkz2 : k = z
      · have q1 : (z ≤ k) = True := eq_true (by omega)
        simp (disch := omega) only [pk_mul, nI_add, ksub, kdv, kd8, kd64, kd2, kd3, km8, km64, kt8, ke8, ke64, kcl, kin, kle, klt, keq, up_s, up_n, up_u, true_and, and_true, false_implies, true_implies, not_false_eq_true, not_true_eq_false, q1]
        exact hQ J sn f hR.1 (fun a ha => bfs_e hB hrE (fun s hs => by rw [hs]; exact ⟨ha0, hS0⟩) (by rw [← hkz2]; exact hCl) ha)
      · have q1 : (z ≤ k) = False := eq_false (by omega)
        have q2 : (64 ≤ k) = False := eq_false (by omega)
        have e41 := hR.2 k (by omega)
        have hqk := hB.2.1 k (by omega)
        obtain ⟨hq64, hqs⟩ := hqk
        simp (disch := omega) only [pk_mul, nI_add, ksub, kdv, kd8, kd64, kd2, kd3, km8, km64, kt8, ke8, ke64, kcl, kin, kle, klt, keq, up_s, up_n, up_u, true_and, and_true, false_implies, true_implies, not_false_eq_true, not_true_eq_false, q1, q2, e41]
        refine lp_fl (l := nb t (q k % 8)) rfl (N := 8) (p := nbp t (q k % 8)) (S := Nat × (Nat → Bool) × (Nat → Nat) × (Nat → Nat → Int32)) (T := fun i s => T_X1_follow_65_3_p55 e (nI s.1) (nI k) (nI (q k % 8)) (nI i) s.2.2.2 L Q) (fun y s => k < s.1 ∧ fr [68, 69] [] I s.2.2.2 ∧ bfR 69 68 s.2.1 s.2.2.1 s.1 s.2.2.2 ∧ bfs (fun s => s = a0) (rE (t 1) (t 3)) s.2.1 s.2.2.1 s.1 ∧ (∀ a, sn a = true → s.2.1 a = true) ∧ (∀ i, i ≤ k → s.2.2.1 i = q i) ∧ (∀ y', y' < y → 0 < t 1 (8 * (q k % 8) + y') → 0 < t 3 (8 * q k + y') → s.2.1 (8 * (q k % 8) + y') = true)) ?_ ?_ ?_ (z, sn, q, J) ⟨by show k < z; omega, f, hR, hB, fun _ h => h, fun _ _ => rfl, fun y' h => absurd h (Nat.not_lt_zero _)⟩
        · rintro y ⟨z1, sn1, q1', J1⟩ hy hp ⟨i1, i2, i3, i4, i5, i6, i7⟩
          refine ⟨i1, i2, i3, i4, i5, i6, fun y' hy' h1 h2 => ?_⟩
          by_cases he : y' = y
          · rw [he] at h1
            unfold nbp at hp
            rw [decide_eq_true h1] at hp
            cases hp
          · exact i7 y' (by omega) h1 h2
        · rintro y i ⟨z1, sn1, q1', J1⟩ hy hp hi hiy ⟨i1, i2, i3, i4, i5, i6, i7⟩ hnext
          dsimp only at i1 i2 i3 i4 i5 i6 i7
          have hsy : 0 < t 1 (8 * (q k % 8) + y) := by unfold nbp at hp; simpa using hp
          have hz1 := bfs_le i4
          have hC1 := hCt _ i2
          obtain ⟨c0, c1, c2, c3, c4, c5, c6, c7, c8, cS, cD, cN, cA, cT, cM, cR, cF, cO, cH, cL⟩ := hC1
          have e5 := cD (q k % 8) (by omega)
          have e6 := cN (q k % 8) (by omega) i hi
          rw [hiy] at e6
          have e41k : J1 68 k = nI (q k) := by
            rw [i3.2 k i1, i6 k (Nat.le_refl _)]
          have hlni := hln (q k % 8)
          have g1 : ((nb t (q k % 8)).length ≤ i) = False := eq_false (by omega)
          have hstq : 0 < t 1 (q k) := (hB.2.2.2 (q k) hq64 hqs) (fun a => 0 < t 1 a) (fun s hs => by rw [hs]; exact hs0) (fun a b _ he => he.2.2.2.2.1)
          have hT : tB t (8 * q k + y) = true := by
            rw [tB_i, show (8 * q k + y) / 8 = q k from by omega, show (8 * q k + y) % 64 = 8 * (q k % 8) + y from by omega]
            exact ⟨hstq, hsy⟩
          have er := cR (8 * q k + y) (by omega) hT
          have bd4 := hw (8 * q k + y) (by omega)
          have e42 := i3.1 (8 * (q k % 8) + y) (by omega)
          have q4 : (8 * q k + y) % 64 = 8 * (q k % 8) + y := by omega
          refine b_X1_follow_65_3_p55 ?_
          simp (disch := omega) only [pk_mul, nI_add, ksub, kdv, kd8, kd64, kd2, kd3, km8, km64, kt8, ke8, ke64, kcl, kin, kle, klt, keq, up_s, up_n, up_u, true_and, and_true, false_implies, true_implies, not_false_eq_true, not_true_eq_false, e5, e6, g1, e41k, er, q4, e42, if1]
          refine ⟨fun h0 => hnext (z1, sn1, q1', J1) ⟨i1, i2, i3, i4, i5, i6, fun y' hy' h1 h2 => ?_⟩, fun h0 => ⟨fun hsn => ⟨fun hz64 => ?_, fun hz64 => ?_⟩, fun hsn => hnext (z1, sn1, q1', J1) ⟨i1, i2, i3, i4, i5, i6, fun y' hy' h1 h2 => ?_⟩⟩⟩
          · by_cases he : y' = y
            · rw [he] at h2; omega
            · exact i7 y' (by omega) h1 h2
          · have := bfs_lt i4 (by omega) hsn
            omega
          · have hrc : RC (fun s => s = a0) (rE (t 1) (t 3)) (8 * (q k % 8) + y) := by
              refine RC_1 (hB.2.2.2 (q k) hq64 hqs) ⟨hq64, by omega, by omega, hstq, hsy, ?_⟩
              rw [show (8 * (q k % 8) + y) % 8 = y from by omega]
              omega
            refine ⟨vp_in_nI (by omega) (by decide), hnext (z1 + 1, va_up sn1 (8 * (q k % 8) + y) true, va_up q1' z1 (8 * (q k % 8) + y), _) ⟨by show k < z1 + 1; omega, fr_up (fr_up i2 rfl) rfl, bfR_u i3 (by decide), bfs_u i4 (by omega) hsn hrc, fun a ha => ?_, fun j hj => ?_, fun y' hy' h1 h2 => ?_⟩⟩
            · show va_up sn1 _ true a = true
              by_cases he : a = 8 * (q k % 8) + y
              · rw [he, up_s]
              · rw [up_n he]; exact i5 a ha
            · show va_up q1' z1 _ j = q j
              rw [up_n (by omega)]; exact i6 j hj
            · show va_up sn1 _ true _ = true
              by_cases he : y' = y
              · rw [he, up_s]
              · rw [up_n (by omega)]; exact i7 y' (by omega) h1 h2
          · by_cases he : y' = y
            · rw [he]
              simpa using hsn
            · exact i7 y' (by omega) h1 h2
        · rintro ⟨z1, sn1, q1', J1⟩ ⟨i1, i2, i3, i4, i5, i6, i7⟩
          dsimp only at i1 i2 i3 i4 i5 i6 i7
          have hC1 := hCt _ i2
          have e5 := hC1.2.2.2.2.2.2.2.2.2.2.1 (q k % 8) (by omega)
          have hlni := hln (q k % 8)
          have g1 : ((nb t (q k % 8)).length ≤ (nb t (q k % 8)).length) = True := eq_true (Nat.le_refl _)
          refine b_X1_follow_65_3_p55 ?_
          simp (disch := omega) only [pk_mul, nI_add, ksub, kdv, kd8, kd64, kd2, kd3, km8, km64, kt8, ke8, ke64, kcl, kin, kle, klt, keq, up_s, up_n, up_u, true_and, and_true, false_implies, true_implies, not_false_eq_true, not_true_eq_false, e5, g1]
          refine ih (64 - (k + 1)) (by omega) (k + 1) z1 sn1 q1' J1 rfl (by omega) i2 i3 i4 (i5 _ hS0) (fun i hi b hb => ?_)
          rw [show q1' i = q i from i6 i (by omega)] at hb
          by_cases hik : i = k
          · rw [hik] at hb
            obtain ⟨b1, b2, b3, b4, b5, b6⟩ := hb
            have h5 := i7 (b % 8) (by omega)
            rw [show 8 * (q k % 8) + b % 8 = b from by omega] at h5
            exact h5 b5 b6
          · exact i5 b (hCl i (by omega) b hb)
  have f1 : fr [68, 69] [] I (va_up I 69 F0) := fr_up (fr_refl _ _ _) rfl
  have r0 : bfR 69 68 (fun _ => false) (fun _ => 0) 0 (va_up I 69 F0) := ⟨fun a ha => hF0 a ha, fun i h => absurd h (Nat.not_lt_zero _)⟩
  have r1 := bfR_u (a := a0) r0 (by decide)
  rw [up_u] at r1
  refine h27 _ 0 1 (va_up (fun _ => false) a0 true) (va_up (fun _ => 0) 0 a0) _ rfl (Nat.zero_le _) (fr_up (fr_up (fr_refl _ _ _) rfl) rfl) r1 (bfs_u (bfs_0 _ _ _) ha0 rfl (RC_0 rfl)) up_s (fun i h => absurd h (Nat.not_lt_zero _))
/-- the first turn with a use left -/
def rk0 (t : tw) : Nat := ff (fun k => decide (0 < t 3 k)) 512
def rndP (t : tw) : Prop := ∀ k, k < 512 → 0 < t 3 k → RC (fun s => s = rk0 t / 8) (rE (t 1) (t 3)) (k / 8)
noncomputable def rndA (t : tw) : Nat := if rk0 t = 512 then 0 else if 0 < unv t 64 then 0 else @ite _ (rndP t) (Classical.propDecidable _) 1 0
theorem c_hasRound {e : am_V} {I : Nat → Nat → Int32} {L : Nat → Nat → Int64} {Q : Int32 → (Nat → Nat → Int32) → Prop} {t : tw} (hC : CT t I) (hk : tok t) (hQ : ∀ J, fr [67, 68, 69] [] I J → Q (nI (rndA t)) J) : C_X1_hasRound_65_3 e I L Q := by
  have hC2 := hC
  have hk2 := hk
  obtain ⟨c0, c1, c2, c3, c4, c5, c6, c7, c8, cS, cD, cN, cA, cT, cM, cR, cF, cO, cH, cL⟩ := hC
  obtain ⟨o0, oT, oZ, oY, oD, o9, oN, o28, oB, oX, oE, oF, oA, oH, oU, oV⟩ := hk
  have hlt : (tu t).length ≤ 512 := by rw [cn_fl]; exact cn_n _ _
  have hub : unv t 64 ≤ 64 := cn_n _ _
  have hcont : rk0 t < 512 → C_X1_unevenArcs_65_3 e I L (fun r1 I2 => ((r1 ≤ nI 0 → C_X1_follow_65_3 e (nI (rk0 t / 8)) I2 L (fun I5 => T_X1_hasRound_65_3_p70 e (nI 0) I5 L Q)) ∧ (¬ r1 ≤ nI 0 → Q (nI 0) I2))) := by
    intro hk0
    have hkp : 0 < t 3 (rk0 t) := of_decide_eq_true ((ff_sp (fun k => decide (0 < t 3 k)) 512).2.2 hk0)
    have hsk := (tB_i.mp (t3_pos hk2 hk0 hkp)).1
    refine c_uneven hC2 hk2 (fun F => ?_)
    have fJ : fr [67, 68, 69] [] I (va_up I 67 F) := fr_up (fr_refl _ _ _) rfl
    rw [kle (by omega) (by decide)]
    refine ⟨fun hu => c_follow (fr_CT fJ hC2 rfl) hk2 (by omega) hsk (fun K sn fK k1 k2 => ?_), fun hu => ?_⟩
    · have fK2 := fr_trans fJ (fr_mono fK rfl rfl)
      have CK := fr_CT fK2 hC2 rfl
      have k6 := CK.2.2.2.2.2.2.1
      refine lp_fl (l := tu t) rfl (N := 512) (p := tB t) (S := Unit) (T := fun i _ => T_X1_hasRound_65_3_p70 e (nI i) K L Q) (fun k _ => ∀ k', k' < k → 0 < t 3 k' → RC (fun s => s = rk0 t / 8) (rE (t 1) (t 3)) (k' / 8)) ?_ ?_ ?_ () (fun k' h => absurd h (Nat.not_lt_zero _))
      · intro k _ hk5 hp hi k' hk' h0
        by_cases he : k' = k
        · rw [he] at h0
          have := oX k hk5 hp
          omega
        · exact hi k' (by omega) h0
      · intro k i _ hk5 hp hi hik hv hnext
        have q2 : ((tu t).length ≤ i) = False := eq_false (by omega)
        have e8 := CK.2.2.2.2.2.2.2.2.2.2.2.2.2.1 i hi
        rw [hik] at e8
        have er := CK.2.2.2.2.2.2.2.2.2.2.2.2.2.2.2.1 k hk5 hp
        have ub := (oB k hk5).2
        have e69 := k1 (k / 8) (by omega)
        refine b_X1_hasRound_65_3_p70 ?_
        simp (disch := omega) only [pk_mul, nI_add, ksub, kdv, kd8, kd64, kd2, kd3, km8, km64, kt8, ke8, ke64, kcl, kin, kle, klt, keq, up_s, up_n, up_u, true_and, and_true, false_implies, true_implies, not_false_eq_true, not_true_eq_false, k6, q2, e8, er, e69, if1]
        refine ⟨fun h0 => hnext () (fun k' hk' h1 => ?_), fun h0 => ⟨fun hsn => ?_, fun hsn => hnext () (fun k' hk' h1 => ?_)⟩⟩
        · by_cases he : k' = k
          · rw [he] at h1; omega
          · exact hv k' (by omega) h1
        · have hno : ¬ rndP t := by
            intro h
            have h5 := (k2 (k / 8) (by omega)).mpr (h k hk5 (by omega))
            rw [hsn] at h5; cases h5
          have h6 := hQ K fK2
          unfold rndA at h6
          rw [if_neg (by omega), if_neg (by omega), if_neg hno] at h6
          exact h6
        · by_cases he : k' = k
          · rw [he]
            exact (k2 (k / 8) (by omega)).mp (by simpa using hsn)
          · exact hv k' (by omega) h1
      · intro _ hv
        have q2 : ((tu t).length ≤ (tu t).length) = True := eq_true (Nat.le_refl _)
        refine b_X1_hasRound_65_3_p70 ?_
        simp (disch := omega) only [pk_mul, nI_add, ksub, kdv, kd8, kd64, kd2, kd3, km8, km64, kt8, ke8, ke64, kcl, kin, kle, klt, keq, up_s, up_n, up_u, true_and, and_true, false_implies, true_implies, not_false_eq_true, not_true_eq_false, k6, q2]
        have h6 := hQ K fK2
        unfold rndA at h6
        rw [if_neg (by omega), if_neg (by omega), if_pos (show rndP t from hv)] at h6
        exact h6
    · have h6 := hQ _ fJ
      unfold rndA at h6
      rw [if_neg (by omega), if_pos (by omega)] at h6
      exact h6
  refine b_X1_hasRound_65_3 ?_
  refine lp_fl (l := tu t) rfl (N := 512) (p := tB t) (S := Unit) (T := fun i _ => T_X1_hasRound_65_3_p4 e (-1 : Int32) (nI i) I L Q) (fun k _ => ∀ k', k' < k → ¬ 0 < t 3 k') ?_ ?_ ?_ () (fun k' h => absurd h (Nat.not_lt_zero _))
  · intro k _ hk5 hp hi k' hk'
    by_cases he : k' = k
    · rw [he]
      have := oX k hk5 hp
      omega
    · exact hi k' (by omega)
  · intro k i _ hk5 hp hi hik hv hnext
    have q2 : ((tu t).length ≤ i) = False := eq_false (by omega)
    have e8 : I 8 i = nI k := by rw [cT i hi, hik]
    have er := cR k hk5 hp
    have ub := (oB k hk5).2
    have qm : ((-1 : Int32) = (-1 : Int32)) = True := eq_true rfl
    refine b_X1_hasRound_65_3_p4 ?_
    simp (disch := omega) only [pk_mul, nI_add, ksub, kdv, kd8, kd64, kd2, kd3, km8, km64, kt8, ke8, ke64, kcl, kin, kle, klt, keq, up_s, up_n, up_u, true_and, and_true, false_implies, true_implies, not_false_eq_true, not_true_eq_false, c6, q2, qm, e8, er]
    refine ⟨fun h0 => hnext () (fun k' hk' => ?_), fun h0 => ?_⟩
    · by_cases he : k' = k
      · rw [he]; omega
      · exact hv k' (by omega)
    · have hk0 : rk0 t = k := ff_eq hk5 (decide_eq_true (by omega)) (fun j hj => decide_eq_false (hv j hj))
      have hc := hcont (by omega)
      rw [hk0] at hc
      have q5 := km1 (n := k / 8) (by omega)
      refine b_X1_hasRound_65_3_p4 ?_
      simp (disch := omega) only [pk_mul, nI_add, ksub, kdv, kd8, kd64, kd2, kd3, km8, km64, kt8, ke8, ke64, kcl, kin, kle, klt, keq, up_s, up_n, up_u, true_and, and_true, false_implies, true_implies, not_false_eq_true, not_true_eq_false, c6, q5]
      exact ⟨fun _ => hc, fun _ => hc⟩
  · intro _ hv
    have q2 : ((tu t).length ≤ (tu t).length) = True := eq_true (Nat.le_refl _)
    have qm : ((-1 : Int32) = (-1 : Int32)) = True := eq_true rfl
    refine b_X1_hasRound_65_3_p4 ?_
    simp (disch := omega) only [pk_mul, nI_add, ksub, kdv, kd8, kd64, kd2, kd3, km8, km64, kt8, ke8, ke64, kcl, kin, kle, klt, keq, up_s, up_n, up_u, true_and, and_true, false_implies, true_implies, not_false_eq_true, not_true_eq_false, c6, q2, qm]
    have hk0 : rk0 t = 512 := ff_no (fun j hj => decide_eq_false (hv j hj))
    have h6 := hQ I (fr_refl _ _ _)
    unfold rndA at h6
    rw [if_pos hk0] at h6
    exact h6
/-- the rows of the reference's searches: 91 from where (none: not seen), 92 the queue -/
def bfM (sn : Nat → Bool) (q : Nat → Nat) (z : Nat) (J : Nat → Nat → Int32) : Prop := (∀ a, a < 64 → (sn a = false → J 91 a = (-1 : Int32)) ∧ (sn a = true → ∃ v, v < 64 ∧ J 91 a = nI v)) ∧ (∀ i, i < z → J 92 i = nI (q i))
theorem bfM_u {sn : Nat → Bool} {q : Nat → Nat} {z a v : Nat} {J : Nat → Nat → Int32} (h : bfM sn q z J) (hv : v < 64) : bfM (va_up sn a true) (va_up q z a) (z + 1) (va_up (va_up J 91 (va_up (J 91) a (nI v))) 92 (va_up (J 92) z (nI a))) := by
  refine ⟨fun b hb => ?_, fun i hi => ?_⟩
  · show (va_up sn a true b = false → va_up (J 91) a (nI v) b = (-1 : Int32)) ∧ (va_up sn a true b = true → ∃ w, w < 64 ∧ va_up (J 91) a (nI v) b = nI w)
    by_cases he : b = a
    · rw [he, up_s, up_s]
      exact ⟨(fun h => by cases h), fun _ => ⟨v, hv, rfl⟩⟩
    · rw [up_n he, up_n he]; exact h.1 b hb
  · rw [up_s]
    by_cases he : i = z
    · rw [he, up_s, up_s]
    · rw [up_n he, up_n he]; exact h.2 i (by omega)
theorem bfM_i {sn : Nat → Bool} {q : Nat → Nat} {z a : Nat} {J : Nat → Nat → Int32} (h : bfM sn q z J) (ha : a < 64) : (J 91 a = (-1 : Int32)) = (sn a = false) := by
  obtain ⟨h1, h2⟩ := h.1 a ha
  refine propext ⟨fun hm => ?_, h1⟩
  cases hs : sn a with
  | false => rfl
  | true =>
    obtain ⟨v, hv, he⟩ := h2 hs
    rw [he, km1 (by omega)] at hm
    exact hm.elim
theorem q_round {e : am_V} {I : Nat → Nat → Int32} {L : Nat → Nat → Int64} {t : tw} {Q : Int32 → Int32 → (Nat → Nat → Int32) → Prop} (hC : CT t I) (hM : MT t I) (hk : tok t) (hQ : ∀ r J, fr SC FC I J → Q r r J) : C_X10_round_0 e I L (fun r J => C_X11_round_73 e J L (fun r' K => Q r r' K)) := by
  have hC2 := hC
  have hM2 := hM
  have hk2 := hk
  obtain ⟨c0, c1, c2, c3, c4, c5, c6, c7, c8, cS, cD, cN, cA, cT, cM, cR, cF, cO, cH, cL⟩ := hC
  obtain ⟨m0, m1, m2, m3, m4, m5, mS, mU, mL, mF, mO, mH, mA, mK⟩ := hM
  obtain ⟨o0, oT, oZ, oY, oD, o9, oN, o28, oB, oX, oE, oF, oA, oH, oU, oV⟩ := hk
  have f0 : fr SC FC I (va_up I 73 (va_up (I 73) 0 (nI 0))) := fr_73 (fr_refl _ _ _) rfl
  by_cases h0 : t 0 0 ≤ 0
  · have g0 := eq_true h0
    have g1 : (t 0 3 ≤ 0) = True := eq_true (by omega)
    (refine b_X10_round_0 ?_; simp (disch := omega) only [pk_mul, nI_add, ksub, kdv, kd8, kd64, kd2, kd3, km8, km64, kt8, ke8, ke64, kcl, kin, kle, klt, keq, up_s, up_n, up_u, true_and, and_true, false_implies, true_implies, not_false_eq_true, not_true_eq_false, c0, g0]; refine b_X11_round_73 ?_; simp (disch := omega) only [pk_mul, nI_add, ksub, kdv, kd8, kd64, kd2, kd3, km8, km64, kt8, ke8, ke64, kcl, kin, kle, klt, keq, up_s, up_n, up_u, true_and, and_true, false_implies, true_implies, not_false_eq_true, not_true_eq_false, m0, g1]; exact hQ _ _ f0)
  · have g0 := eq_false h0
    have g1 : (t 0 3 ≤ 0) = False := eq_false (by omega)
    have hub : unv t 64 ≤ 64 := cn_n _ _
    have hrE : ∀ a b, rE (t 1) (t 3) a b → a < 64 ∧ b < 64 := fun a b h => ⟨h.1, h.2.1⟩
    refine b_X10_round_0 ?_
    simp (disch := omega) only [pk_mul, nI_add, ksub, kdv, kd8, kd64, kd2, kd3, km8, km64, kt8, ke8, ke64, kcl, kin, kle, klt, keq, up_s, up_n, up_u, true_and, and_true, false_implies, true_implies, not_false_eq_true, not_true_eq_false, c0, g0]
    refine c_hasRound hC2 hk2 (fun J fJ => ?_)
    have hr01 : rndA t = 0 ∨ rndA t = 1 := by
      unfold rndA
      split
      · exact Or.inl rfl
      · split
        · exact Or.inl rfl
        · split
          · exact Or.inr rfl
          · exact Or.inl rfl
    have hmain : C_X11_round_73 e J L (fun r' K => Q (nI (rndA t)) r' K) := by
      have MJ := fr_MT fJ hM2 rfl
      have m0J := MJ.1
      refine b_X11_round_73 ?_
      simp (disch := omega) only [pk_mul, nI_add, ksub, kdv, kd8, kd64, kd2, kd3, km8, km64, kt8, ke8, ke64, kcl, kin, kle, klt, keq, up_s, up_n, up_u, true_and, and_true, false_implies, true_implies, not_false_eq_true, not_true_eq_false, m0J, g1]
      refine c_unevenNow (MT_0 MJ) hk2 ?_
      rw [kle (by omega) (by decide)]
      refine ⟨fun hu => ?_, fun hu => ?_⟩
      · generalize hJ0 : va_up J 73 (va_up (J 73) 0 (nI 0)) = J0
        have MJ0 : MT t J0 := by rw [← hJ0]; exact MT_0 MJ
        have hfin : ∀ v K, rndA t = v → fr [91, 92] [] J0 K → Q (nI (rndA t)) (nI v) K := by
          intro v K hv fK
          rw [← hv]
          refine hQ _ _ ?_
          rw [← hJ0] at fK
          exact fr_q1 fJ fK rfl rfl rfl rfl
        -- the search
        have h111 : ∀ m k z sn q K, 64 - k = m → k ≤ z → fr [91, 92] [] J0 K → bfM sn q z K → rk0 t < 512 → bfs (fun s => s = rk0 t / 8) (rE (t 1) (t 3)) sn q z → sn (rk0 t / 8) = true → bfC (rE (t 1) (t 3)) sn q k → T_X11_round_73_p111 e (nI z) (nI k) K L (fun r' K => Q (nI (rndA t)) r' K) := by
          intro m
          induction m using Nat.strongRecOn with
          | ind m ih =>
            intro k z sn q K hm hkz f hR hk0 hB hS0 hCl
            have hz := bfs_le hB
            have hkp : 0 < t 3 (rk0 t) := of_decide_eq_true ((ff_sp (fun k => decide (0 < t 3 k)) 512).2.2 hk0)
            have hsk := (tB_i.mp (t3_pos hk2 hk0 hkp)).1
            refine b_X11_round_73_p111 ?_
            by_cases hkz2 : k = z
            · have q1 : (z ≤ k) = True := eq_true (by omega)
              simp (disch := omega) only [pk_mul, nI_add, ksub, kdv, kd8, kd64, kd2, kd3, km8, km64, kt8, ke8, ke64, kcl, kin, kle, klt, keq, up_s, up_n, up_u, true_and, and_true, false_implies, true_implies, not_false_eq_true, not_true_eq_false, q1]
              have he : ∀ a, a < 64 → (sn a = true ↔ RC (fun s => s = rk0 t / 8) (rE (t 1) (t 3)) a) := fun a ha => bfs_e hB hrE (fun s hs => by rw [hs]; exact ⟨by omega, hS0⟩) (by rw [← hkz2]; exact hCl) ha
              have MK := fr_MT f MJ0 rfl
              refine lp_up (n := 512) (S := Unit) (T := fun k _ => T_X11_round_73_p213 e (nI k) K L _) (fun k _ => ∀ k', k' < k → 0 < t 3 k' → RC (fun s => s = rk0 t / 8) (rE (t 1) (t 3)) (k' / 8)) ?_ ?_ 0 () (Nat.zero_le _) (fun k' h => absurd h (Nat.not_lt_zero _))
              · intro k _ hk5 hv hnext
                have q2 : (512 ≤ k) = False := eq_false (by omega)
                have e83 := MK.2.2.2.2.2.2.2.2.1 k hk5
                have ub := (oB k hk5).2
                have e91 := bfM_i (a := k / 8) hR (by omega)
                refine b_X11_round_73_p213 ?_
                simp (disch := omega) only [pk_mul, nI_add, ksub, kdv, kd8, kd64, kd2, kd3, km8, km64, kt8, ke8, ke64, kcl, kin, kle, klt, keq, up_s, up_n, up_u, true_and, and_true, false_implies, true_implies, not_false_eq_true, not_true_eq_false, q2, e83, e91]
                refine ⟨fun h0 => hnext () (fun k' hk' h1 => ?_), fun h0 => ⟨fun hsn => ?_, fun hsn => hnext () (fun k' hk' h1 => ?_)⟩⟩
                · by_cases he2 : k' = k
                  · rw [he2] at h1; omega
                  · exact hv k' (by omega) h1
                · have hno : ¬ rndP t := by
                    intro h
                    have h5 := (he (k / 8) (by omega)).mpr (h k hk5 (by omega))
                    rw [hsn] at h5; cases h5
                  refine hfin 0 K ?_ f
                  unfold rndA
                  rw [if_neg (by omega), if_neg (by omega), if_neg hno]
                · by_cases he2 : k' = k
                  · rw [he2]
                    exact (he (k / 8) (by omega)).mp (by simpa using hsn)
                  · exact hv k' (by omega) h1
              · intro _ hv
                have q2 : (512 ≤ 512) = True := eq_true (Nat.le_refl _)
                refine b_X11_round_73_p213 ?_
                simp (disch := omega) only [pk_mul, nI_add, ksub, kdv, kd8, kd64, kd2, kd3, km8, km64, kt8, ke8, ke64, kcl, kin, kle, klt, keq, up_s, up_n, up_u, true_and, and_true, false_implies, true_implies, not_false_eq_true, not_true_eq_false, q2]
                refine hfin 1 K ?_ f
                unfold rndA
                rw [if_neg (by omega), if_neg (by omega), if_pos (show rndP t from hv)]
            · have q1 : (z ≤ k) = False := eq_false (by omega)
              have hqk := hB.2.1 k (by omega)
              obtain ⟨hq64, hqs⟩ := hqk
              simp (disch := omega) only [pk_mul, nI_add, ksub, kdv, kd8, kd64, kd2, kd3, km8, km64, kt8, ke8, ke64, kcl, kin, kle, klt, keq, up_s, up_n, up_u, true_and, and_true, false_implies, true_implies, not_false_eq_true, not_true_eq_false, q1]
              have hstq : 0 < t 1 (q k) := (hB.2.2.2 (q k) hq64 hqs) (fun a => 0 < t 1 a) (fun s hs => by rw [hs]; exact hsk) (fun a b _ he => he.2.2.2.2.1)
              refine lp_ux (n := t 0 0) (N := 8) (S := Nat × (Nat → Bool) × (Nat → Nat) × (Nat → Nat → Int32)) (T := fun y s => T_X11_round_73_p118 e (nI s.1) (nI k) (nI y) s.2.2.2 L _) (fun y s => k < s.1 ∧ fr [91, 92] [] J0 s.2.2.2 ∧ bfM s.2.1 s.2.2.1 s.1 s.2.2.2 ∧ bfs (fun s => s = rk0 t / 8) (rE (t 1) (t 3)) s.2.1 s.2.2.1 s.1 ∧ (∀ a, sn a = true → s.2.1 a = true) ∧ (∀ i, i ≤ k → s.2.2.1 i = q i) ∧ (∀ y', y' < y → 0 < t 3 (8 * q k + y') → s.2.1 (8 * (q k % 8) + y') = true)) o0 ?_ ?_ ?_ (z, sn, q, K) ⟨by show k < z; omega, f, hR, hB, fun _ h => h, fun _ _ => rfl, fun y' h => absurd h (Nat.not_lt_zero _)⟩
              · rintro y ⟨z1, sn1, q1', J1⟩ hy1 hy2 ⟨i1, i2, i3, i4, i5, i6, i7⟩
                refine ⟨i1, i2, i3, i4, i5, i6, fun y' hy' h2 => ?_⟩
                by_cases he : y' = y
                · rw [he] at h2
                  have h5 := (tB_i.mp (t3_pos hk2 (by omega) h2)).2
                  have h6 := oN (q k % 8) (by omega) y hy2 (by rw [show 8 * (q k % 8) + y = (8 * q k + y) % 64 from by omega]; exact h5)
                  omega
                · exact i7 y' (by omega) h2
              · rintro y ⟨z1, sn1, q1', J1⟩ hy ⟨i1, i2, i3, i4, i5, i6, i7⟩ hnext
                dsimp only at i1 i2 i3 i4 i5 i6 i7
                have hz1 := bfs_le i4
                have MK := fr_MT i2 MJ0 rfl
                have m1K := MK.2.1
                have e83 := MK.2.2.2.2.2.2.2.2.1 (8 * q k + y) (by omega)
                have ub := (oB (8 * q k + y) (by omega)).2
                have e92 : J1 92 k = nI (q k) := by rw [i3.2 k i1, i6 k (Nat.le_refl _)]
                have g2 : (t 0 0 ≤ y) = False := eq_false (by omega)
                have e91 := bfM_i (a := 8 * (q k % 8) + y) i3 (by omega)
                refine b_X11_round_73_p118 ?_
                simp (disch := omega) only [pk_mul, nI_add, ksub, kdv, kd8, kd64, kd2, kd3, km8, km64, kt8, ke8, ke64, kcl, kin, kle, klt, keq, up_s, up_n, up_u, true_and, and_true, false_implies, true_implies, not_false_eq_true, not_true_eq_false, m1K, g2, e92, e83, e91]
                refine ⟨fun h0 => hnext (z1, sn1, q1', J1) ⟨i1, i2, i3, i4, i5, i6, fun y' hy' h2 => ?_⟩, fun h0 => ⟨fun hsn => ?_, fun hsn => hnext (z1, sn1, q1', J1) ⟨i1, i2, i3, i4, i5, i6, fun y' hy' h2 => ?_⟩⟩⟩
                · by_cases he : y' = y
                  · rw [he] at h2; omega
                  · exact i7 y' (by omega) h2
                · have hsy : 0 < t 1 (8 * (q k % 8) + y) := by
                    have h5 := (tB_i.mp (t3_pos hk2 (k := 8 * q k + y) (by omega) (by omega))).2
                    rw [show (8 * q k + y) % 64 = 8 * (q k % 8) + y from by omega] at h5
                    exact h5
                  have hrc : RC (fun s => s = rk0 t / 8) (rE (t 1) (t 3)) (8 * (q k % 8) + y) := by
                    refine RC_1 (hB.2.2.2 (q k) hq64 hqs) ⟨hq64, by omega, by omega, hstq, hsy, ?_⟩
                    rw [show (8 * (q k % 8) + y) % 8 = y from by omega]
                    omega
                  have hz64 := bfs_lt i4 (show 8 * (q k % 8) + y < 64 from by omega) hsn
                  simp (disch := omega) only [pk_mul, nI_add, ksub, kdv, kd8, kd64, kd2, kd3, km8, km64, kt8, ke8, ke64, kcl, kin, kle, klt, keq, up_s, up_n, up_u, true_and, and_true, false_implies, true_implies, not_false_eq_true, not_true_eq_false]
                  refine hnext (z1 + 1, va_up sn1 (8 * (q k % 8) + y) true, va_up q1' z1 (8 * (q k % 8) + y), _) ⟨by show k < z1 + 1; omega, fr_up (fr_up i2 rfl) rfl, bfM_u i3 hq64, bfs_u i4 (by omega) hsn hrc, fun a ha => ?_, fun j hj => ?_, fun y' hy' h2 => ?_⟩
                  · show va_up sn1 _ true a = true
                    by_cases he : a = 8 * (q k % 8) + y
                    · rw [he, up_s]
                    · rw [up_n he]; exact i5 a ha
                  · show va_up q1' z1 _ j = q j
                    rw [up_n (by omega)]; exact i6 j hj
                  · show va_up sn1 _ true _ = true
                    by_cases he : y' = y
                    · rw [he, up_s]
                    · rw [up_n (by omega)]; exact i7 y' (by omega) h2
                · by_cases he : y' = y
                  · rw [he]
                    simpa using hsn
                  · exact i7 y' (by omega) h2
              · rintro ⟨z1, sn1, q1', J1⟩ ⟨i1, i2, i3, i4, i5, i6, i7⟩
                dsimp only at i1 i2 i3 i4 i5 i6 i7
                have MK := fr_MT i2 MJ0 rfl
                have m1K := MK.2.1
                have g2 : (t 0 0 ≤ t 0 0) = True := eq_true (Nat.le_refl _)
                refine b_X11_round_73_p118 ?_
                simp (disch := omega) only [pk_mul, nI_add, ksub, kdv, kd8, kd64, kd2, kd3, km8, km64, kt8, ke8, ke64, kcl, kin, kle, klt, keq, up_s, up_n, up_u, true_and, and_true, false_implies, true_implies, not_false_eq_true, not_true_eq_false, m1K, g2]
                refine ih (64 - (k + 1)) (by omega) (k + 1) z1 sn1 q1' J1 rfl (by omega) i2 i3 hk0 i4 (i5 _ hS0) (fun i hi b hb => ?_)
                rw [show q1' i = q i from i6 i (by omega)] at hb
                by_cases hik : i = k
                · rw [hik] at hb
                  obtain ⟨b1, b2, b3, b4, b5, b6⟩ := hb
                  have h5 := i7 (b % 8) (by omega)
                  rw [show 8 * (q k % 8) + b % 8 = b from by omega] at h5
                  exact h5 b6
                · exact i5 b (hCl i (by omega) b hb)
        -- the rows cleared
        have h28 : T_X11_round_73_p28 e (nI 0) (nI 0) (va_up J0 91 (J0 91)) L (fun r' K => Q (nI (rndA t)) r' K) := by
          refine lp_up (n := 64) (S := Nat → Int32) (T := fun k F => T_X11_round_73_p28 e (nI 0) (nI k) (va_up J0 91 F) L _) (fun k F => ∀ j, j < k → F j = (-1 : Int32)) ?_ ?_ 0 (J0 91) (Nat.zero_le _) (fun j h => absurd h (Nat.not_lt_zero _))
          · intro k F hk6 hi hnext
            refine b_X11_round_73_p28 ?_
            have hnk : (64 ≤ k) = False := eq_false (by omega)
            simp (disch := omega) only [pk_mul, nI_add, ksub, kdv, kd8, kd64, kd2, kd3, km8, km64, kt8, ke8, ke64, kcl, kin, kle, klt, keq, up_s, up_n, up_u, true_and, and_true, false_implies, true_implies, not_false_eq_true, not_true_eq_false, hnk]
            refine hnext _ (fun j hj => ?_)
            by_cases he : j = k
            · rw [he, up_s]
            · rw [up_n he]; exact hi j (by omega)
          · intro F hi
            refine b_X11_round_73_p28 ?_
            have hnn : (64 ≤ 64) = True := eq_true (Nat.le_refl _)
            simp (disch := omega) only [pk_mul, nI_add, ksub, kdv, kd8, kd64, kd2, kd3, km8, km64, kt8, ke8, ke64, kcl, kin, kle, klt, keq, up_s, up_n, up_u, true_and, and_true, false_implies, true_implies, not_false_eq_true, not_true_eq_false, hnn]
            have fF : fr [91, 92] [] J0 (va_up J0 91 F) := fr_up (fr_refl _ _ _) rfl
            refine lp_up (n := 512) (S := Unit) (T := fun k _ => T_X11_round_73_p49 e (nI 0) (nI k) (va_up J0 91 F) L _) (fun k _ => ∀ k', k' < k → ¬ 0 < t 3 k') ?_ ?_ 0 () (Nat.zero_le _) (fun k' h => absurd h (Nat.not_lt_zero _))
            · intro k _ hk5 hv hnext
              have q2 : (512 ≤ k) = False := eq_false (by omega)
              have q3 : ((0 : Nat) = 0) = True := eq_true rfl
              have e83 := MJ0.2.2.2.2.2.2.2.2.1 k hk5
              have ub := (oB k hk5).2
              refine b_X11_round_73_p49 ?_
              simp (disch := omega) only [pk_mul, nI_add, ksub, kdv, kd8, kd64, kd2, kd3, km8, km64, kt8, ke8, ke64, kcl, kin, kle, klt, keq, up_s, up_n, up_u, true_and, and_true, false_implies, true_implies, not_false_eq_true, not_true_eq_false, q2, q3, e83]
              refine ⟨fun h0 => hnext () (fun k' hk' => ?_), fun h0 => ?_⟩
              · by_cases he : k' = k
                · rw [he]; omega
                · exact hv k' (by omega)
              · have hk0 : rk0 t = k := ff_eq hk5 (decide_eq_true (by omega)) (fun j hj => decide_eq_false (hv j hj))
                have r0 : bfM (fun _ => false) (fun _ => 0) 0 (va_up J0 91 F) := ⟨fun a ha => ⟨fun _ => hi a ha, fun h => by cases h⟩, fun i h => absurd h (Nat.not_lt_zero _)⟩
                have r1 := bfM_u (a := k / 8) (v := k / 8) r0 (by omega)
                rw [up_u] at r1
                have hc := h111 64 0 1 (va_up (fun _ => false) (rk0 t / 8) true) (va_up (fun _ => 0) 0 (rk0 t / 8)) (va_up (va_up J0 91 (va_up F (k / 8) (nI (k / 8)))) 92 (va_up (J0 92) 0 (nI (k / 8)))) rfl (Nat.zero_le _) (fr_up (fr_up (fr_refl _ _ _) rfl) rfl) (by rw [hk0]; exact r1) (by omega) (bfs_u (bfs_0 _ _ _) (by omega) rfl (RC_0 rfl)) up_s (fun i h => absurd h (Nat.not_lt_zero _))
                have q5 : ((1 : Nat) = 0) = False := eq_false (by decide)
                refine b_X11_round_73_p49 ?_
                simp (disch := omega) only [pk_mul, nI_add, ksub, kdv, kd8, kd64, kd2, kd3, km8, km64, kt8, ke8, ke64, kcl, kin, kle, klt, keq, up_s, up_n, up_u, true_and, and_true, false_implies, true_implies, not_false_eq_true, not_true_eq_false, q5]
                exact ⟨fun _ => hc, fun _ => hc⟩
            · intro _ hv
              have q2 : (512 ≤ 512) = True := eq_true (Nat.le_refl _)
              have q3 : ((0 : Nat) = 0) = True := eq_true rfl
              refine b_X11_round_73_p49 ?_
              simp (disch := omega) only [pk_mul, nI_add, ksub, kdv, kd8, kd64, kd2, kd3, km8, km64, kt8, ke8, ke64, kcl, kin, kle, klt, keq, up_s, up_n, up_u, true_and, and_true, false_implies, true_implies, not_false_eq_true, not_true_eq_false, q2, q3]
              have hk0 : rk0 t = 512 := ff_no (fun j hj => decide_eq_false (hv j hj))
              refine hfin 0 _ ?_ fF
              unfold rndA
              rw [if_pos hk0]
        rw [up_id] at h28
        exact h28
      · have h6 : rndA t = 0 := by
          unfold rndA
          split
          · rfl
          · rw [if_pos (by omega)]
        rw [h6]
        exact hQ _ _ (fr_q0 fJ rfl rfl)
    rcases hr01 with h | h
    · rw [h] at hmain ⊢
      exact ⟨fun _ => hmain, fun h => absurd rfl h⟩
    · rw [h] at hmain ⊢
      exact ⟨fun h => absurd h (by decide), fun _ => hmain⟩
