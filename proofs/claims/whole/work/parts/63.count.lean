/-! count (by gen_63.py) -/
theorem sm_8 (f : Nat → Nat) (n : Nat) : sm f (8 * n) = sm (fun x => sm (fun y => f (8 * x + y)) 8) n := sm_mul f 8 n
theorem cn_sm (p : Nat → Bool) : ∀ n, cn p n = sm (fun k => if p k = true then 1 else 0) n := by
  intro n
  induction n with
  | zero => rfl
  | succ n ih =>
    show cn p n + (if p n = true then 1 else 0) = sm _ n + (if p n = true then 1 else 0)
    rw [ih]
theorem sm_sw (f : Nat → Nat → Nat) (n : Nat) : ∀ m, sm (fun x => sm (fun y => f x y) n) m = sm (fun y => sm (fun x => f x y) m) n := by
  intro m
  induction m with
  | zero =>
    show 0 = sm (fun y => 0) n
    exact (sm_0 (fun k _ => rfl)).symm
  | succ m ih =>
    show sm (fun x => sm (fun y => f x y) n) m + sm (fun y => f m y) n = sm (fun y => sm (fun x => f x y) m + f m y) n
    rw [sm_add, ih]
theorem sm_if (p : Nat → Bool) (d : Nat) : ∀ n, sm (fun x => if p x = true then d else 0) n = cn p n * d := by
  intro n
  induction n with
  | zero => exact (Nat.zero_mul d).symm
  | succ n ih =>
    show sm _ n + (if p n = true then d else 0) = (cn p n + (if p n = true then 1 else 0)) * d
    rw [ih]
    split
    · rw [Nat.add_mul, Nat.one_mul]
    · rfl
theorem tu_deg {t : tw} (hk : tok t) : (tu t).length = sm (fun y => (nb t y).length * (nb t y).length) 8 := by
  obtain ⟨o0, oT, oZ, oY, oD, o9, oN, o28, oB, oX, oE, oF, oA, oH, oU, oV⟩ := hk
  have h1 : (tu t).length = sm (fun q => sm (fun z => if tB t (8 * q + z) = true then 1 else 0) 8) 64 := by
    show ((List.range 512).filter (tB t)).length = _
    rw [cn_fl, cn_sm]
    exact sm_8 _ 64
  have h2 : ∀ q, q < 64 → sm (fun z => if tB t (8 * q + z) = true then 1 else 0) 8 = if 0 < t 1 q then (nb t (q % 8)).length else 0 := by
    intro q hq
    show _ = if 0 < t 1 q then ((List.range 8).filter (nbp t (q % 8))).length else 0
    rw [cn_fl, cn_sm]
    by_cases hp : 0 < t 1 q
    · rw [if_pos hp]
      refine sm_c (fun z hz => ?_)
      have hi : tB t (8 * q + z) = nbp t (q % 8) z := by
        unfold tB nbp
        rw [show (8 * q + z) / 8 = q from by omega, show (8 * q + z) % 64 = 8 * (q % 8) + z from by omega, decide_eq_true hp, Bool.true_and]
      rw [hi]
    · rw [if_neg hp]
      refine sm_0 (fun z hz => if_neg ?_)
      unfold tB
      rw [show (8 * q + z) / 8 = q from by omega, decide_eq_false hp, Bool.false_and]
      decide
  rw [h1, sm_c h2]
  rw [show (64 : Nat) = 8 * 8 from rfl, sm_8]
  have h3 : ∀ x, x < 8 → sm (fun y => if 0 < t 1 (8 * x + y) then (nb t ((8 * x + y) % 8)).length else 0) 8 = sm (fun y => if 0 < t 1 (8 * x + y) then (nb t y).length else 0) 8 := fun x hx => sm_c (fun y hy => by rw [show (8 * x + y) % 8 = y from by omega])
  rw [sm_c h3, sm_sw (fun x y => if 0 < t 1 (8 * x + y) then (nb t y).length else 0)]
  refine sm_c (fun y hy => ?_)
  have h4 : sm (fun x => if 0 < t 1 (8 * x + y) then (nb t y).length else 0) 8 = sm (fun x => if nbp t y x = true then (nb t y).length else 0) 8 := by
    refine sm_c (fun x hx => ?_)
    rw [oY x hx y hy]
    unfold nbp
    by_cases hp : 0 < t 1 (8 * y + x)
    · rw [if_pos hp, if_pos (decide_eq_true hp)]
    · rw [if_neg hp, if_neg (by rw [decide_eq_true_eq]; exact hp)]
  rw [h4, sm_if, ← cn_fl]
theorem c_streetsOf {e : am_V} {I : Nat → Nat → Int32} {L : Nat → Nat → Int64} {t : tw} {Q : Int32 → (Nat → Nat → Int32) → Prop} (hM : MT t I) (hk : tok t) (hQ : Q (nI ((ar t).length / 2)) I) : C_X11_streetsOf_73 e (nI 0) I L Q := by
  obtain ⟨m0, m1, m2, m3, m4, m5, mS, mU, mL, mF, mO, mH, mA, mK⟩ := hM
  obtain ⟨o0, oT, oZ, oY, oD, o9, oN, o28, oB, oX, oE, oF, oA, oH, oU, oV⟩ := hk
  have hl : (ar t).length = cn (arp t) 64 := cn_fl _ _
  refine b_X11_streetsOf_73 ?_
  refine lp_up (n := 64) (S := Nat) (T := fun a s => T_X11_streetsOf_73_p4 e (nI 0) (nI s) (nI a) I L Q) (fun a s => s = cn (arp t) a) ?_ ?_ 0 0 (Nat.zero_le _) rfl
  · intro a s ha hi hnext
    have q1 : (64 ≤ a) = False := eq_false (by omega)
    have e1 := mS a ha
    have u1 := o9 a ha
    have z1 : 64 * 0 + a = a := by omega
    refine b_X11_streetsOf_73_p4 ?_
    by_cases h0 : t 1 a ≤ 0
    · have q2 := eq_true h0
      simp (disch := omega) only [pk_mul, nI_add, ksub, kdv, kd8, kd64, kd2, kd3, km8, km64, kt8, ke8, ke64, kcl, kin, kle, klt, keq, up_s, up_n, up_u, true_and, and_true, false_implies, true_implies, not_false_eq_true, not_true_eq_false, q1, z1, e1, q2]
      refine hnext _ ?_
      show s + 0 = cn (arp t) a + (if arp t a = true then 1 else 0)
      rw [if_neg (by unfold arp; rw [decide_eq_true_eq]; omega), hi]
    · have q2 := eq_false h0
      simp (disch := omega) only [pk_mul, nI_add, ksub, kdv, kd8, kd64, kd2, kd3, km8, km64, kt8, ke8, ke64, kcl, kin, kle, klt, keq, up_s, up_n, up_u, true_and, and_true, false_implies, true_implies, not_false_eq_true, not_true_eq_false, q1, z1, e1, q2]
      refine hnext _ ?_
      show s + 1 = cn (arp t) a + (if arp t a = true then 1 else 0)
      rw [if_pos (by unfold arp; rw [decide_eq_true_eq]; omega), hi]
  · intro s hi
    have q1 : (64 ≤ 64) = True := eq_true (Nat.le_refl _)
    have b64 := cn_n (arp t) 64
    refine b_X11_streetsOf_73_p4 ?_
    simp (disch := omega) only [pk_mul, nI_add, ksub, kdv, kd8, kd64, kd2, kd3, km8, km64, kt8, ke8, ke64, kcl, kin, kle, klt, keq, up_s, up_n, up_u, true_and, and_true, false_implies, true_implies, not_false_eq_true, not_true_eq_false, q1]
    rw [hi, ← hl]
    exact hQ
theorem c_turns {e : am_V} {I : Nat → Nat → Int32} {L : Nat → Nat → Int64} {t : tw} {Q : Int32 → (Nat → Nat → Int32) → Prop} (hM : MT t I) (hk : tok t) (hQ : Q (nI (tu t).length) I) : T_X11_count_73_p81 e (nI 0) (nI 0) I L Q := by
  rw [tu_deg hk] at hQ
  have hM2 := hM
  have hk2 := hk
  obtain ⟨m0, m1, m2, m3, m4, m5, mS, mU, mL, mF, mO, mH, mA, mK⟩ := hM
  obtain ⟨o0, oT, oZ, oY, oD, o9, oN, o28, oB, oX, oE, oF, oA, oH, oU, oV⟩ := hk
  refine lp_ux (n := t 0 0) (N := 8) (S := Nat) (T := fun x s => T_X11_count_73_p81 e (nI s) (nI x) I L Q) (fun x s => s = sm (fun y => (nb t y).length * (nb t y).length) x) o0 ?_ ?_ ?_ 0 rfl
  · intro x s h1 h2 hi
    show s = sm _ x + (nb t x).length * (nb t x).length
    have hz : (nb t x).length = 0 := by
      show ((List.range 8).filter (nbp t x)).length = 0
      rw [cn_fl]
      refine cn_z (fun y hy => ?_)
      unfold nbp
      rw [decide_eq_false_iff_not]
      intro hp
      have := (oN x h2 y hy hp).1
      omega
    rw [hz, hi]
    rfl
  · intro x s hx hi hnext
    have q1 : (t 0 0 ≤ x) = False := eq_false (by omega)
    refine b_X11_count_73_p81 ?_
    simp (disch := omega) only [pk_mul, nI_add, ksub, kdv, kd8, kd64, kd2, kd3, km8, km64, kt8, ke8, ke64, kcl, kin, kle, klt, keq, up_s, up_n, up_u, true_and, and_true, false_implies, true_implies, not_false_eq_true, not_true_eq_false, m1, q1]
    refine c_besideOf hM2 hk2 (by omega) (c_sizeOf (c_besideOf hM2 hk2 (by omega) (c_sizeOf ?_)))
    simp (disch := omega) only [pk_mul, nI_add, ksub, kdv, kd8, kd64, kd2, kd3, km8, km64, kt8, ke8, ke64, kcl, kin, kle, klt, keq, up_s, up_n, up_u, true_and, and_true, false_implies, true_implies, not_false_eq_true, not_true_eq_false]
    refine hnext _ ?_
    show s + (nb t x).length * (nb t x).length = sm _ x + (nb t x).length * (nb t x).length
    rw [hi]
  · intro s hi
    have q1 : (t 0 0 ≤ t 0 0) = True := eq_true (Nat.le_refl _)
    refine b_X11_count_73_p81 ?_
    simp (disch := omega) only [pk_mul, nI_add, ksub, kdv, kd8, kd64, kd2, kd3, km8, km64, kt8, ke8, ke64, kcl, kin, kle, klt, keq, up_s, up_n, up_u, true_and, and_true, false_implies, true_implies, not_false_eq_true, not_true_eq_false, m1, q1]
    rw [hi]
    exact hQ
theorem st_c {s : Nat} {I : Nat → Nat → Int32} {L : Nat → Nat → Int64} (h : SLs s I L) : (I (29 + 2 * s) 1 = nI 0 ∧ I 74 s = (-1 : Int32)) ∨ (¬ I (29 + 2 * s) 1 = nI 0 ∧ ¬ I 74 s = (-1 : Int32)) := by
  rcases h with ⟨a, b⟩ | ⟨w, c, hw, hc, a, b, c', d, _⟩
  · exact Or.inl ⟨a, b⟩
  · refine Or.inr ⟨by rw [a]; decide, ?_⟩
    rw [d, km1 (by omega)]
    exact id
theorem r_count {B : tw → Nat × Nat × (Nat → Nat)} {e : am_V} {I : Nat → Nat → Int32} {L : Nat → Nat → Int64} {t : tw} {m : Nat} {v1 : Int32} {Q : Int32 → Int32 → (Nat → Nat → Int32) → Prop} (hR : Rel B e t I L m) (hQ : ∀ r J, Rel B e t J L m → Q r r J) : C_X10_count_0 e v1 I L (fun r J => C_X11_count_73 e v1 J L (fun r' K => Q r r' K)) := by
  have f0 : fr SC FC I (va_up I 73 (va_up (I 73) 0 (nI 0))) := fr_73 (fr_refl _ _ _) rfl
  have f1 : Rel B e t (va_up I 73 (va_up (I 73) 0 (nI 0))) L m := Rel_q hR f0 (frL_r L) (Nat.le_refl _)
  obtain ⟨tp, x1, x2, x3, x4, x5, x6⟩ := hR.2.2.2.1
  have hS := hR.2.2.2.2.1
  have hk := hR.1
  have hC := hR.2.1
  have hM := hR.2.2.1
  have hk2 := hk
  have hC2 := hC
  have hM2 := hM
  have hM3 := fr_MT f0 hM rfl
  obtain ⟨c0, c1, c2, c3, c4, c5, c6, c7, c8, cS, cD, cN, cA, cT, cM, cR, cF, cO, cH, cL⟩ := hC
  obtain ⟨m0, m1, m2, m3, m4, m5, mS, mU, mL, mF, mO, mH, mA, mK⟩ := hM
  obtain ⟨o0, oT, oZ, oY, oD, o9, oN, o28, oB, oX, oE, oF, oA, oH, oU, oV⟩ := hk
  by_cases ho : v1.toInt < 0 ∨ 10 < v1.toInt
  · have no : ∀ k : Int, 0 ≤ k → k ≤ 10 → ¬ v1.toInt = k := fun k h1 h2 h3 => by omega
    refine b_X10_count_0 ⟨fun _ => b_X11_count_73 ⟨fun _ => hQ _ _ f1, (fun h => absurd h (no 0 (by decide) (by decide))), (fun h => absurd h (no 1 (by decide) (by decide))), (fun h => absurd h (no 2 (by decide) (by decide))), (fun h => absurd h (no 3 (by decide) (by decide))), (fun h => absurd h (no 4 (by decide) (by decide))), (fun h => absurd h (no 5 (by decide) (by decide))), (fun h => absurd h (no 6 (by decide) (by decide))), (fun h => absurd h (no 7 (by decide) (by decide))), (fun h => absurd h (no 8 (by decide) (by decide))), (fun h => absurd h (no 9 (by decide) (by decide))), (fun h => absurd h (no 10 (by decide) (by decide)))⟩, (fun h => absurd h (no 0 (by decide) (by decide))), (fun h => absurd h (no 1 (by decide) (by decide))), (fun h => absurd h (no 2 (by decide) (by decide))), (fun h => absurd h (no 3 (by decide) (by decide))), (fun h => absurd h (no 4 (by decide) (by decide))), (fun h => absurd h (no 5 (by decide) (by decide))), (fun h => absurd h (no 6 (by decide) (by decide))), (fun h => absurd h (no 7 (by decide) (by decide))), (fun h => absurd h (no 8 (by decide) (by decide))), (fun h => absurd h (no 9 (by decide) (by decide))), (fun h => absurd h (no 10 (by decide) (by decide)))⟩
  · have hn : v1.toInt = 0 ∨ v1.toInt = 1 ∨ v1.toInt = 2 ∨ v1.toInt = 3 ∨ v1.toInt = 4 ∨ v1.toInt = 5 ∨ v1.toInt = 6 ∨ v1.toInt = 7 ∨ v1.toInt = 8 ∨ v1.toInt = 9 ∨ v1.toInt = 10 := by omega
    rcases hn with h | h | h | h | h | h | h | h | h | h | h
    · refine b_X10_count_0 ?_
      rw [h]
      refine ⟨(fun h => absurd h (by decide)), (fun _ => ?_), (fun h => absurd h (by decide)), (fun h => absurd h (by decide)), (fun h => absurd h (by decide)), (fun h => absurd h (by decide)), (fun h => absurd h (by decide)), (fun h => absurd h (by decide)), (fun h => absurd h (by decide)), (fun h => absurd h (by decide)), (fun h => absurd h (by decide)), (fun h => absurd h (by decide))⟩
      refine b_X11_count_73 ?_
      rw [h]
      refine ⟨(fun h => absurd h (by decide)), (fun _ => ?_), (fun h => absurd h (by decide)), (fun h => absurd h (by decide)), (fun h => absurd h (by decide)), (fun h => absurd h (by decide)), (fun h => absurd h (by decide)), (fun h => absurd h (by decide)), (fun h => absurd h (by decide)), (fun h => absurd h (by decide)), (fun h => absurd h (by decide)), (fun h => absurd h (by decide))⟩
      rw [c0, m1]
      exact hQ _ _ f1
    · refine b_X10_count_0 ?_
      rw [h]
      refine ⟨(fun h => absurd h (by decide)), (fun h => absurd h (by decide)), (fun _ => ?_), (fun h => absurd h (by decide)), (fun h => absurd h (by decide)), (fun h => absurd h (by decide)), (fun h => absurd h (by decide)), (fun h => absurd h (by decide)), (fun h => absurd h (by decide)), (fun h => absurd h (by decide)), (fun h => absurd h (by decide)), (fun h => absurd h (by decide))⟩
      refine b_X11_count_73 ?_
      rw [h]
      refine ⟨(fun h => absurd h (by decide)), (fun h => absurd h (by decide)), (fun _ => ?_), (fun h => absurd h (by decide)), (fun h => absurd h (by decide)), (fun h => absurd h (by decide)), (fun h => absurd h (by decide)), (fun h => absurd h (by decide)), (fun h => absurd h (by decide)), (fun h => absurd h (by decide)), (fun h => absurd h (by decide)), (fun h => absurd h (by decide))⟩
      rw [c4]
      exact c_streetsOf hM3 hk2 (hQ _ _ f1)
    · refine b_X10_count_0 ?_
      rw [h]
      refine ⟨(fun h => absurd h (by decide)), (fun h => absurd h (by decide)), (fun h => absurd h (by decide)), (fun _ => ?_), (fun h => absurd h (by decide)), (fun h => absurd h (by decide)), (fun h => absurd h (by decide)), (fun h => absurd h (by decide)), (fun h => absurd h (by decide)), (fun h => absurd h (by decide)), (fun h => absurd h (by decide)), (fun h => absurd h (by decide))⟩
      refine b_X11_count_73 ?_
      rw [h]
      refine ⟨(fun h => absurd h (by decide)), (fun h => absurd h (by decide)), (fun h => absurd h (by decide)), (fun _ => ?_), (fun h => absurd h (by decide)), (fun h => absurd h (by decide)), (fun h => absurd h (by decide)), (fun h => absurd h (by decide)), (fun h => absurd h (by decide)), (fun h => absurd h (by decide)), (fun h => absurd h (by decide)), (fun h => absurd h (by decide))⟩
      rw [c6]
      exact c_turns hM3 hk2 (hQ _ _ f1)
    · refine b_X10_count_0 ?_
      rw [h]
      refine ⟨(fun h => absurd h (by decide)), (fun h => absurd h (by decide)), (fun h => absurd h (by decide)), (fun h => absurd h (by decide)), (fun _ => ?_), (fun h => absurd h (by decide)), (fun h => absurd h (by decide)), (fun h => absurd h (by decide)), (fun h => absurd h (by decide)), (fun h => absurd h (by decide)), (fun h => absurd h (by decide)), (fun h => absurd h (by decide))⟩
      refine b_X11_count_73 ?_
      rw [h]
      refine ⟨(fun h => absurd h (by decide)), (fun h => absurd h (by decide)), (fun h => absurd h (by decide)), (fun h => absurd h (by decide)), (fun _ => ?_), (fun h => absurd h (by decide)), (fun h => absurd h (by decide)), (fun h => absurd h (by decide)), (fun h => absurd h (by decide)), (fun h => absurd h (by decide)), (fun h => absurd h (by decide)), (fun h => absurd h (by decide))⟩
      rw [c1, m2]
      exact hQ _ _ f1
    · refine b_X10_count_0 ?_
      rw [h]
      refine ⟨(fun h => absurd h (by decide)), (fun h => absurd h (by decide)), (fun h => absurd h (by decide)), (fun h => absurd h (by decide)), (fun h => absurd h (by decide)), (fun _ => ?_), (fun h => absurd h (by decide)), (fun h => absurd h (by decide)), (fun h => absurd h (by decide)), (fun h => absurd h (by decide)), (fun h => absurd h (by decide)), (fun h => absurd h (by decide))⟩
      refine b_X11_count_73 ?_
      rw [h]
      refine ⟨(fun h => absurd h (by decide)), (fun h => absurd h (by decide)), (fun h => absurd h (by decide)), (fun h => absurd h (by decide)), (fun h => absurd h (by decide)), (fun _ => ?_), (fun h => absurd h (by decide)), (fun h => absurd h (by decide)), (fun h => absurd h (by decide)), (fun h => absurd h (by decide)), (fun h => absurd h (by decide)), (fun h => absurd h (by decide))⟩
      rw [c2, m3]
      exact hQ _ _ f1
    · refine b_X10_count_0 ?_
      rw [h]
      refine ⟨(fun h => absurd h (by decide)), (fun h => absurd h (by decide)), (fun h => absurd h (by decide)), (fun h => absurd h (by decide)), (fun h => absurd h (by decide)), (fun h => absurd h (by decide)), (fun _ => ?_), (fun h => absurd h (by decide)), (fun h => absurd h (by decide)), (fun h => absurd h (by decide)), (fun h => absurd h (by decide)), (fun h => absurd h (by decide))⟩
      refine b_X11_count_73 ?_
      rw [h]
      refine ⟨(fun h => absurd h (by decide)), (fun h => absurd h (by decide)), (fun h => absurd h (by decide)), (fun h => absurd h (by decide)), (fun h => absurd h (by decide)), (fun h => absurd h (by decide)), (fun _ => ?_), (fun h => absurd h (by decide)), (fun h => absurd h (by decide)), (fun h => absurd h (by decide)), (fun h => absurd h (by decide)), (fun h => absurd h (by decide))⟩
      rw [c7, m4]
      exact hQ _ _ f1
    · refine b_X10_count_0 ?_
      rw [h]
      refine ⟨(fun h => absurd h (by decide)), (fun h => absurd h (by decide)), (fun h => absurd h (by decide)), (fun h => absurd h (by decide)), (fun h => absurd h (by decide)), (fun h => absurd h (by decide)), (fun h => absurd h (by decide)), (fun _ => ?_), (fun h => absurd h (by decide)), (fun h => absurd h (by decide)), (fun h => absurd h (by decide)), (fun h => absurd h (by decide))⟩
      refine c_sum_10 hC2 cR oX ?_
      refine b_X11_count_73 ?_
      rw [h]
      refine ⟨(fun h => absurd h (by decide)), (fun h => absurd h (by decide)), (fun h => absurd h (by decide)), (fun h => absurd h (by decide)), (fun h => absurd h (by decide)), (fun h => absurd h (by decide)), (fun h => absurd h (by decide)), (fun _ => ?_), (fun h => absurd h (by decide)), (fun h => absurd h (by decide)), (fun h => absurd h (by decide)), (fun h => absurd h (by decide))⟩
      refine c_asLeft hM3.2.2.2.2.2.2.2.2.1 (fun F hF => c_sumNow hF (hQ _ _ (Rel_q hR (fr_up f0 rfl) (frL_r L) (Nat.le_refl _))))
    · refine b_X10_count_0 ?_
      rw [h]
      refine ⟨(fun h => absurd h (by decide)), (fun h => absurd h (by decide)), (fun h => absurd h (by decide)), (fun h => absurd h (by decide)), (fun h => absurd h (by decide)), (fun h => absurd h (by decide)), (fun h => absurd h (by decide)), (fun h => absurd h (by decide)), (fun _ => ?_), (fun h => absurd h (by decide)), (fun h => absurd h (by decide)), (fun h => absurd h (by decide))⟩
      refine b_X11_count_73 ?_
      rw [h]
      refine ⟨(fun h => absurd h (by decide)), (fun h => absurd h (by decide)), (fun h => absurd h (by decide)), (fun h => absurd h (by decide)), (fun h => absurd h (by decide)), (fun h => absurd h (by decide)), (fun h => absurd h (by decide)), (fun h => absurd h (by decide)), (fun _ => ?_), (fun h => absurd h (by decide)), (fun h => absurd h (by decide)), (fun h => absurd h (by decide))⟩
      rw [c8, m5]
      exact hQ _ _ f1
    · refine b_X10_count_0 ?_
      rw [h]
      refine ⟨(fun h => absurd h (by decide)), (fun h => absurd h (by decide)), (fun h => absurd h (by decide)), (fun h => absurd h (by decide)), (fun h => absurd h (by decide)), (fun h => absurd h (by decide)), (fun h => absurd h (by decide)), (fun h => absurd h (by decide)), (fun h => absurd h (by decide)), (fun _ => ?_), (fun h => absurd h (by decide)), (fun h => absurd h (by decide))⟩
      refine b_X11_count_73 ?_
      rw [h]
      refine ⟨(fun h => absurd h (by decide)), (fun h => absurd h (by decide)), (fun h => absurd h (by decide)), (fun h => absurd h (by decide)), (fun h => absurd h (by decide)), (fun h => absurd h (by decide)), (fun h => absurd h (by decide)), (fun h => absurd h (by decide)), (fun h => absurd h (by decide)), (fun _ => ?_), (fun h => absurd h (by decide)), (fun h => absurd h (by decide))⟩
      rw [c3, m0]
      exact hQ _ _ f1
    · refine b_X10_count_0 ?_
      rw [h]
      refine ⟨(fun h => absurd h (by decide)), (fun h => absurd h (by decide)), (fun h => absurd h (by decide)), (fun h => absurd h (by decide)), (fun h => absurd h (by decide)), (fun h => absurd h (by decide)), (fun h => absurd h (by decide)), (fun h => absurd h (by decide)), (fun h => absurd h (by decide)), (fun h => absurd h (by decide)), (fun _ => ?_), (fun h => absurd h (by decide))⟩
      refine b_X11_count_73 ?_
      rw [h]
      refine ⟨(fun h => absurd h (by decide)), (fun h => absurd h (by decide)), (fun h => absurd h (by decide)), (fun h => absurd h (by decide)), (fun h => absurd h (by decide)), (fun h => absurd h (by decide)), (fun h => absurd h (by decide)), (fun h => absurd h (by decide)), (fun h => absurd h (by decide)), (fun h => absurd h (by decide)), (fun _ => ?_), (fun h => absurd h (by decide))⟩
      rw [x2, x3]
      exact hQ _ _ f1
    · refine b_X10_count_0 ?_
      rw [h]
      refine ⟨(fun h => absurd h (by decide)), (fun h => absurd h (by decide)), (fun h => absurd h (by decide)), (fun h => absurd h (by decide)), (fun h => absurd h (by decide)), (fun h => absurd h (by decide)), (fun h => absurd h (by decide)), (fun h => absurd h (by decide)), (fun h => absurd h (by decide)), (fun h => absurd h (by decide)), (fun h => absurd h (by decide)), (fun _ => ?_)⟩
      have s0 := hS 0 (by decide)
      have s1 := hS 1 (by decide)
      have s2 := hS 2 (by decide)
      have s3 := hS 3 (by decide)
      have r0 : (I 29 1 = nI 0 ∧ I 74 0 = (-1 : Int32)) ∨ (¬ I 29 1 = nI 0 ∧ ¬ I 74 0 = (-1 : Int32)) := st_c s0
      have r1 : (I 31 1 = nI 0 ∧ I 74 1 = (-1 : Int32)) ∨ (¬ I 31 1 = nI 0 ∧ ¬ I 74 1 = (-1 : Int32)) := st_c s1
      have r2 : (I 33 1 = nI 0 ∧ I 74 2 = (-1 : Int32)) ∨ (¬ I 33 1 = nI 0 ∧ ¬ I 74 2 = (-1 : Int32)) := st_c s2
      have r3 : (I 35 1 = nI 0 ∧ I 74 3 = (-1 : Int32)) ∨ (¬ I 35 1 = nI 0 ∧ ¬ I 74 3 = (-1 : Int32)) := st_c s3
      have fin : ∀ n, T_X11_count_73_p168 e (nI n) (nI 0 + nI 1 + nI 1 + nI 1 + nI 1) (va_up I 73 (va_up (I 73) 0 (nI 0))) L (fun r' K => Q (nI n) r' K) := fun n => b_X11_count_73_p168 ⟨fun _ => hQ _ _ f1, fun h => absurd (by decide) h⟩
      have l4 : ∀ n, n < 4 → (4 ≤ n) = False := fun n h => eq_false (by omega)
      rcases r0 with ⟨g0, y0⟩ | ⟨g0, y0⟩ <;> rcases r1 with ⟨g1, y1⟩ | ⟨g1, y1⟩ <;> rcases r2 with ⟨g2, y2⟩ | ⟨g2, y2⟩ <;> rcases r3 with ⟨g3, y3⟩ | ⟨g3, y3⟩ <;> (refine b_X10_standingSlots_0 ?_; simp only [g0, g1, g2, g3, true_implies, false_implies, not_true_eq_false, not_false_eq_true, true_and, and_true]; refine b_X11_count_73 ?_; rw [h]; refine ⟨(fun h => absurd h (by decide)), (fun h => absurd h (by decide)), (fun h => absurd h (by decide)), (fun h => absurd h (by decide)), (fun h => absurd h (by decide)), (fun h => absurd h (by decide)), (fun h => absurd h (by decide)), (fun h => absurd h (by decide)), (fun h => absurd h (by decide)), (fun h => absurd h (by decide)), (fun h => absurd h (by decide)), (fun _ => ?_)⟩; refine b_X11_count_73_p168 ?_; simp (disch := omega) only [pk_mul, nI_add, ksub, kdv, kd8, kd64, kd2, kd3, km8, km64, kt8, ke8, ke64, kcl, kin, kle, klt, keq, up_s, up_n, up_u, true_and, and_true, false_implies, true_implies, not_false_eq_true, not_true_eq_false, y0, l4]; refine b_X11_count_73_p168 ?_; simp (disch := omega) only [pk_mul, nI_add, ksub, kdv, kd8, kd64, kd2, kd3, km8, km64, kt8, ke8, ke64, kcl, kin, kle, klt, keq, up_s, up_n, up_u, true_and, and_true, false_implies, true_implies, not_false_eq_true, not_true_eq_false, y1, l4]; refine b_X11_count_73_p168 ?_; simp (disch := omega) only [pk_mul, nI_add, ksub, kdv, kd8, kd64, kd2, kd3, km8, km64, kt8, ke8, ke64, kcl, kin, kle, klt, keq, up_s, up_n, up_u, true_and, and_true, false_implies, true_implies, not_false_eq_true, not_true_eq_false, y2, l4]; refine b_X11_count_73_p168 ?_; simp (disch := omega) only [pk_mul, nI_add, ksub, kdv, kd8, kd64, kd2, kd3, km8, km64, kt8, ke8, ke64, kcl, kin, kle, klt, keq, up_s, up_n, up_u, true_and, and_true, false_implies, true_implies, not_false_eq_true, not_true_eq_false, y3, l4]; exact fin _)
