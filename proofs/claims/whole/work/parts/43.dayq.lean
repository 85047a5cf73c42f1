/-! the day asked: day, goes, fails, dusk, spent, spares -/
theorem c_sum_49 {e : am_V} {I : Nat → Nat → Int32} {L : Nat → Nat → Int64} {Q : Int32 → (Nat → Nat → Int32) → Prop} {t : tw} {nw : Nat → Nat} (hC : CT t I) (hr : ∀ k, k < 512 → tB t k = true → I 49 k = nI (nw k)) (hz : ∀ k, k < 512 → tB t k = false → nw k = 0) (hQ : Q (nI (sm nw 512)) I) : C_X7_sumOf_3_49 e I L Q := by
  obtain ⟨c0, c1, c2, c3, c4, c5, c6, c7, c8, cS, cD, cN, cA, cT, cM, cR, cF, cO, cH, cL⟩ := hC
  have hlt : (tu t).length ≤ 512 := by rw [cn_fl]; exact cn_n _ _
  refine b_X7_sumOf_3_49 ?_
  refine lp_fl (l := tu t) rfl (N := 512) (p := tB t) (S := Nat) (T := fun i s => T_X7_sumOf_3_49_p4 e (nI s) (nI i) I L Q) (fun k s => s = sm nw k) ?_ ?_ ?_ 0 rfl
  · intro k s hk5 hp hi
    show s = sm nw k + nw k
    rw [hz k hk5 hp, hi]
    rfl
  · intro k i s hk5 hp hi hik hs hnext
    have q2 : ((tu t).length ≤ i) = False := eq_false (by omega)
    have e8 : I 8 i = nI k := by rw [cT i hi, hik]
    have er := hr k hk5 hp
    refine b_X7_sumOf_3_49_p4 ?_
    simp (disch := omega) only [pk_mul, nI_add, ksub, kdv, kd8, kd64, kd2, kd3, km8, km64, kt8, ke8, ke64, kcl, kin, kle, klt, keq, up_s, up_n, up_u, true_and, and_true, false_implies, true_implies, not_false_eq_true, not_true_eq_false, c6, q2, e8, er]
    refine hnext _ ?_
    show s + nw k = sm nw k + nw k
    rw [hs]
  · intro s hs
    have q2 : ((tu t).length ≤ (tu t).length) = True := eq_true (Nat.le_refl _)
    refine b_X7_sumOf_3_49_p4 ?_
    simp (disch := omega) only [pk_mul, nI_add, ksub, kdv, kd8, kd64, kd2, kd3, km8, km64, kt8, ke8, ke64, kcl, kin, kle, klt, keq, up_s, up_n, up_u, true_and, and_true, false_implies, true_implies, not_false_eq_true, not_true_eq_false, c6, q2]
    rw [hs]
    exact hQ
theorem c_sum_10 {e : am_V} {I : Nat → Nat → Int32} {L : Nat → Nat → Int64} {Q : Int32 → (Nat → Nat → Int32) → Prop} {t : tw} {nw : Nat → Nat} (hC : CT t I) (hr : ∀ k, k < 512 → tB t k = true → I 10 k = nI (nw k)) (hz : ∀ k, k < 512 → tB t k = false → nw k = 0) (hQ : Q (nI (sm nw 512)) I) : C_X7_sumOf_3_10 e I L Q := by
  obtain ⟨c0, c1, c2, c3, c4, c5, c6, c7, c8, cS, cD, cN, cA, cT, cM, cR, cF, cO, cH, cL⟩ := hC
  have hlt : (tu t).length ≤ 512 := by rw [cn_fl]; exact cn_n _ _
  refine b_X7_sumOf_3_10 ?_
  refine lp_fl (l := tu t) rfl (N := 512) (p := tB t) (S := Nat) (T := fun i s => T_X7_sumOf_3_10_p4 e (nI s) (nI i) I L Q) (fun k s => s = sm nw k) ?_ ?_ ?_ 0 rfl
  · intro k s hk5 hp hi
    show s = sm nw k + nw k
    rw [hz k hk5 hp, hi]
    rfl
  · intro k i s hk5 hp hi hik hs hnext
    have q2 : ((tu t).length ≤ i) = False := eq_false (by omega)
    have e8 : I 8 i = nI k := by rw [cT i hi, hik]
    have er := hr k hk5 hp
    refine b_X7_sumOf_3_10_p4 ?_
    simp (disch := omega) only [pk_mul, nI_add, ksub, kdv, kd8, kd64, kd2, kd3, km8, km64, kt8, ke8, ke64, kcl, kin, kle, klt, keq, up_s, up_n, up_u, true_and, and_true, false_implies, true_implies, not_false_eq_true, not_true_eq_false, c6, q2, e8, er]
    refine hnext _ ?_
    show s + nw k = sm nw k + nw k
    rw [hs]
  · intro s hs
    have q2 : ((tu t).length ≤ (tu t).length) = True := eq_true (Nat.le_refl _)
    refine b_X7_sumOf_3_10_p4 ?_
    simp (disch := omega) only [pk_mul, nI_add, ksub, kdv, kd8, kd64, kd2, kd3, km8, km64, kt8, ke8, ke64, kcl, kin, kle, klt, keq, up_s, up_n, up_u, true_and, and_true, false_implies, true_implies, not_false_eq_true, not_true_eq_false, c6, q2]
    rw [hs]
    exact hQ
theorem c_sum_71 {e : am_V} {I : Nat → Nat → Int32} {L : Nat → Nat → Int64} {Q : Int32 → (Nat → Nat → Int32) → Prop} {t : tw} {nw : Nat → Nat} (hC : CT t I) (hr : ∀ k, k < 512 → tB t k = true → I 71 k = nI (nw k)) (hz : ∀ k, k < 512 → tB t k = false → nw k = 0) (hQ : Q (nI (sm nw 512)) I) : C_X7_sumOf_3_71 e I L Q := by
  obtain ⟨c0, c1, c2, c3, c4, c5, c6, c7, c8, cS, cD, cN, cA, cT, cM, cR, cF, cO, cH, cL⟩ := hC
  have hlt : (tu t).length ≤ 512 := by rw [cn_fl]; exact cn_n _ _
  refine b_X7_sumOf_3_71 ?_
  refine lp_fl (l := tu t) rfl (N := 512) (p := tB t) (S := Nat) (T := fun i s => T_X7_sumOf_3_71_p4 e (nI s) (nI i) I L Q) (fun k s => s = sm nw k) ?_ ?_ ?_ 0 rfl
  · intro k s hk5 hp hi
    show s = sm nw k + nw k
    rw [hz k hk5 hp, hi]
    rfl
  · intro k i s hk5 hp hi hik hs hnext
    have q2 : ((tu t).length ≤ i) = False := eq_false (by omega)
    have e8 : I 8 i = nI k := by rw [cT i hi, hik]
    have er := hr k hk5 hp
    refine b_X7_sumOf_3_71_p4 ?_
    simp (disch := omega) only [pk_mul, nI_add, ksub, kdv, kd8, kd64, kd2, kd3, km8, km64, kt8, ke8, ke64, kcl, kin, kle, klt, keq, up_s, up_n, up_u, true_and, and_true, false_implies, true_implies, not_false_eq_true, not_true_eq_false, c6, q2, e8, er]
    refine hnext _ ?_
    show s + nw k = sm nw k + nw k
    rw [hs]
  · intro s hs
    have q2 : ((tu t).length ≤ (tu t).length) = True := eq_true (Nat.le_refl _)
    refine b_X7_sumOf_3_71_p4 ?_
    simp (disch := omega) only [pk_mul, nI_add, ksub, kdv, kd8, kd64, kd2, kd3, km8, km64, kt8, ke8, ke64, kcl, kin, kle, klt, keq, up_s, up_n, up_u, true_and, and_true, false_implies, true_implies, not_false_eq_true, not_true_eq_false, c6, q2]
    rw [hs]
    exact hQ
theorem c_sumNow {e : am_V} {I : Nat → Nat → Int32} {L : Nat → Nat → Int64} {Q : Int32 → (Nat → Nat → Int32) → Prop} {nw : Nat → Nat} (h87 : ∀ k, k < 512 → I 87 k = nI (nw k)) (hQ : Q (nI (sm nw 512)) I) : C_X11_sumNow_73 e I L Q := by
  refine b_X11_sumNow_73 ?_
  refine lp_up (n := 512) (S := Nat) (T := fun k s => T_X11_sumNow_73_p4 e (nI s) (nI k) I L Q) (fun k s => s = sm nw k) ?_ ?_ 0 0 (Nat.zero_le _) rfl
  · intro k s hk hi hnext
    have hnk : (512 ≤ k) = False := eq_false (by omega)
    have e87 := h87 k hk
    refine b_X11_sumNow_73_p4 ?_
    simp (disch := omega) only [pk_mul, nI_add, ksub, kdv, kd8, kd64, kd2, kd3, km8, km64, kt8, ke8, ke64, kcl, kin, kle, klt, keq, up_s, up_n, up_u, true_and, and_true, false_implies, true_implies, not_false_eq_true, not_true_eq_false, hnk, e87]
    refine hnext _ ?_
    show s + nw k = sm nw k + nw k
    rw [hi]
  · intro s hi
    have hnn : (512 ≤ 512) = True := eq_true (Nat.le_refl _)
    refine b_X11_sumNow_73_p4 ?_
    simp (disch := omega) only [pk_mul, nI_add, ksub, kdv, kd8, kd64, kd2, kd3, km8, km64, kt8, ke8, ke64, kcl, kin, kle, klt, keq, up_s, up_n, up_u, true_and, and_true, false_implies, true_implies, not_false_eq_true, not_true_eq_false, hnn]
    rw [hi]
    exact hQ
/-- the day on the reference's side: by hours, then gone -/
theorem c_asDay {e : am_V} {I : Nat → Nat → Int32} {L : Nat → Nat → Int64} {Q : (Nat → Nat → Int32) → Prop} {t : tw} {but : Int32} (hM : MT t I) (hk : tok t)
    (hQ : ∀ J, fr [87, 88, 89, 93, 94] [27, 28, 34, 35] I J → (∀ i, i < t 0 4 → J 93 i = nI ((dlh t (t 0 4) 24).getD i 0)) → (∀ k, k < 512 → J 87 k = nI ((dyL t but (dlh t (t 0 4) 24)).1 k)) → J 73 34 = nI (dyL t but (dlh t (t 0 4) 24)).2.1 → (∀ j, j ∈ dlh t (t 0 4) 24 → nI j ≠ but → J 94 j = (dyL t but (dlh t (t 0 4) 24)).2.2.2.2 j) → Q J) : C_X11_byHours_73 e I L (fun I2 => C_X11_goesDay_73 e but I2 L (fun I5 => Q I5)) := by
  refine c_byHours hM hk (fun J fJ hJ => ?_)
  have hl := (dl_l (t := t) (n := t 0 4) (fun j hj => (hk.2.2.2.2.2.2.2.2.2.2.2.1 j hj).2.2.2)).1
  refine c_goesDay (l := dlh t (t 0 4) 24) (fr_MT fJ hM rfl) hk hJ hl (fun j hj => (dlh_m.mp hj).1) (fun K fK k1 k2 k3 k4 => ?_)
  refine hQ K (fr_trans (fr_mono fJ rfl rfl) (fr_mono fK rfl rfl)) (fun i hi => ?_) k1 k2 k4
  rw [fK.1 93 (by decide) (by decide)]
  exact hJ i hi
theorem nd_ne {l : List Nat} (h : l.Nodup) {i n : Nat} (hi : i < n) (hn : n < l.length) : l.getD i 0 ≠ l.getD n 0 := by
  have h1 := List.pairwise_iff_getElem.mp h i n (by omega) hn hi
  rw [List.getD_eq_getElem?_getD, List.getD_eq_getElem?_getD, List.getElem?_eq_getElem hn, List.getElem?_eq_getElem (show i < l.length from by omega)]
  exact h1
theorem dy_fail {t : tw} (hk : tok t) {l : List Nat} (hnd : l.Nodup) (hl : ∀ j, j ∈ l → j < t 0 4) : ∀ n, n ≤ l.length → ((dyL t (-1) (l.take n)).2.2.2.1 = (-1 : Int32) ∧ ∀ i, i < n → (dyL t (-1) (l.take n)).2.2.2.2 (l.getD i 0) ≠ (-1 : Int32)) ∨ ∃ i, i < n ∧ (dyL t (-1) (l.take n)).2.2.2.1 = nI (l.getD i 0) ∧ (dyL t (-1) (l.take n)).2.2.2.2 (l.getD i 0) = (-1 : Int32) ∧ ∀ i', i' < i → (dyL t (-1) (l.take n)).2.2.2.2 (l.getD i' 0) ≠ (-1 : Int32) := by
  have hk2 := hk
  obtain ⟨o0, oT, oZ, oY, oD, o9, oN, o28, oB, oX, oE, oF, oA, oH, oU, oV⟩ := hk
  intro n
  induction n with
  | zero => intro _; exact Or.inl ⟨rfl, fun i h => absurd h (Nat.not_lt_zero _)⟩
  | succ n ih =>
    intro hn
    have hi := ih (by omega)
    rw [tk_a (by omega), dyL_a]
    have hj := hl _ (gd_mem (l := l) (i := n) (by omega))
    have hne := fun i (h : i < n) => nd_ne hnd h (show n < l.length from by omega)
    generalize hjj : l.getD n 0 = j at hj hne
    generalize dyL t (-1) (l.take n) = s at hi
    have h8 := (oF j hj).1
    have hjm : ¬ nI j = (-1 : Int32) := by
      intro h
      have := km1 (n := j) (by omega)
      rw [this] at h
      exact h
    by_cases hf : wC (t 1) (tcf s.1 0) (t 5 j) (t 4 j) < 100000000
    · have hd : dyF t (-1) s j = (spd (fun v => v - 1) s.1 (wR (t 1) (tcf s.1 0) (t 5 j) (t 4 j)) (wL (t 1) (tcf s.1 0) (t 5 j) (t 4 j) - 2), s.2.1 + 1, s.2.2.1 + wC (t 1) (tcf s.1 0) (t 5 j) (t 4 j) % 1000000 / 100, s.2.2.2.1, va_up s.2.2.2.2 j (nI (wC (t 1) (tcf s.1 0) (t 5 j) (t 4 j) % 1000000 / 100))) := by
        unfold dyF
        rw [if_neg hjm, if_pos hf]
      rw [hd]
      have hlm : ¬ nI (wC (t 1) (tcf s.1 0) (t 5 j) (t 4 j) % 1000000 / 100) = (-1 : Int32) := by
        intro h
        have := km1 (n := wC (t 1) (tcf s.1 0) (t 5 j) (t 4 j) % 1000000 / 100) (by omega)
        rw [this] at h
        exact h
      rcases hi with ⟨h1, h2⟩ | ⟨i, h1, h2, h3, h4⟩
      · refine Or.inl ⟨h1, fun i hi => ?_⟩
        show va_up s.2.2.2.2 j _ (l.getD i 0) ≠ _
        by_cases he : i = n
        · rw [he, hjj, up_s]; exact hlm
        · rw [up_n (hne i (by omega))]; exact h2 i (by omega)
      · refine Or.inr ⟨i, by omega, h2, ?_, fun i' hi' => ?_⟩
        · show va_up s.2.2.2.2 j _ (l.getD i 0) = _
          rw [up_n (hne i (by omega))]; exact h3
        · show va_up s.2.2.2.2 j _ (l.getD i' 0) ≠ _
          rw [up_n (hne i' (by omega))]; exact h4 i' hi'
    · have hd : dyF t (-1) s j = (s.1, s.2.1, s.2.2.1, if s.2.2.2.1 = (-1 : Int32) then nI j else s.2.2.2.1, va_up s.2.2.2.2 j (-1 : Int32)) := by
        unfold dyF
        rw [if_neg hjm, if_neg hf]
      rw [hd]
      rcases hi with ⟨h1, h2⟩ | ⟨i, h1, h2, h3, h4⟩
      · refine Or.inr ⟨n, by omega, ?_, ?_, fun i' hi' => ?_⟩
        · show (if s.2.2.2.1 = (-1 : Int32) then nI j else s.2.2.2.1) = _
          rw [if_pos h1, hjj]
        · show va_up s.2.2.2.2 j _ (l.getD n 0) = _
          rw [hjj, up_s]
        · show va_up s.2.2.2.2 j _ (l.getD i' 0) ≠ _
          rw [up_n (hne i' (by omega))]; exact h2 i' hi'
      · have hli := hl _ (gd_mem (l := l) (i := i) (by omega))
        have hne1 : ¬ s.2.2.2.1 = (-1 : Int32) := by
          rw [h2]
          intro h
          have := km1 (n := l.getD i 0) (by omega)
          rw [this] at h
          exact h
        refine Or.inr ⟨i, by omega, ?_, ?_, fun i' hi' => ?_⟩
        · show (if s.2.2.2.1 = (-1 : Int32) then nI j else s.2.2.2.1) = _
          rw [if_neg hne1]; exact h2
        · show va_up s.2.2.2.2 j _ (l.getD i 0) = _
          rw [up_n (hne i (by omega))]; exact h3
        · show va_up s.2.2.2.2 j _ (l.getD i' 0) ≠ _
          rw [up_n (hne i' (by omega))]; exact h4 i' hi'
theorem q_day {e : am_V} {I : Nat → Nat → Int32} {L : Nat → Nat → Int64} {t : tw} {Q : Int32 → Int32 → (Nat → Nat → Int32) → Prop} (hC : CT t I) (hM : MT t I) (hk : tok t) (hQ : ∀ r J, fr SC FC I J → Q r r J) : C_X10_day_0 e I L (fun r J => C_X11_day_73 e J L (fun r' K => Q r r' K)) := by
  have hC2 := hC
  have hM2 := hM
  have hk2 := hk
  obtain ⟨c0, c1, c2, c3, c4, c5, c6, c7, c8, cS, cD, cN, cA, cT, cM, cR, cF, cO, cH, cL⟩ := hC
  obtain ⟨m0, m1, m2, m3, m4, m5, mS, mU, mL, mF, mO, mH, mA, mK⟩ := hM
  obtain ⟨o0, oT, oZ, oY, oD, o9, oN, o28, oB, oX, oE, oF, oA, oH, oU, oV⟩ := hk
  have f0 : fr SC FC I (va_up I 73 (va_up (I 73) 0 (nI 0))) := fr_73 (fr_refl _ _ _) rfl
  have hdl := dl_l (t := t) (n := t 0 4) (fun j hj => (oF j hj).2.2.2)
  by_cases h0 : t 0 0 ≤ 0
  · have g0 := eq_true h0
    have g1 : (t 0 3 ≤ 0) = True := eq_true (by omega)
    (refine b_X10_day_0 ?_; simp (disch := omega) only [pk_mul, nI_add, ksub, kdv, kd8, kd64, kd2, kd3, km8, km64, kt8, ke8, ke64, kcl, kin, kle, klt, keq, up_s, up_n, up_u, true_and, and_true, false_implies, true_implies, not_false_eq_true, not_true_eq_false, c0, g0]; refine b_X11_day_73 ?_; simp (disch := omega) only [pk_mul, nI_add, ksub, kdv, kd8, kd64, kd2, kd3, km8, km64, kt8, ke8, ke64, kcl, kin, kle, klt, keq, up_s, up_n, up_u, true_and, and_true, false_implies, true_implies, not_false_eq_true, not_true_eq_false, m0, g1]; exact hQ _ _ f0)
  · have g0 := eq_false h0
    have g1 : (t 0 3 ≤ 0) = False := eq_false (by omega)
    refine b_X10_day_0 ?_
    simp (disch := omega) only [pk_mul, nI_add, ksub, kdv, kd8, kd64, kd2, kd3, km8, km64, kt8, ke8, ke64, kcl, kin, kle, klt, keq, up_s, up_n, up_u, true_and, and_true, false_implies, true_implies, not_false_eq_true, not_true_eq_false, c0, g0]
    refine c_pass hC2 hk2 (fun J fJ j1 j2 j3 j4 => ?_)
    rw [j2]
    have MJ := fr_MT fJ hM2 rfl
    have m0J := MJ.1
    refine b_X11_day_73 ?_
    simp (disch := omega) only [pk_mul, nI_add, ksub, kdv, kd8, kd64, kd2, kd3, km8, km64, kt8, ke8, ke64, kcl, kin, kle, klt, keq, up_s, up_n, up_u, true_and, and_true, false_implies, true_implies, not_false_eq_true, not_true_eq_false, m0J, g1]
    refine c_asDay (MT_0 MJ) hk2 (fun K fK k0 k1 k2 k4 => ?_)
    rw [k2]
    exact hQ _ _ (fr_q1 fJ fK rfl rfl rfl rfl)
theorem q_dusk {e : am_V} {I : Nat → Nat → Int32} {L : Nat → Nat → Int64} {t : tw} {Q : Int32 → Int32 → (Nat → Nat → Int32) → Prop} (hC : CT t I) (hM : MT t I) (hk : tok t) (hQ : ∀ r J, fr SC FC I J → Q r r J) : C_X10_dusk_0 e I L (fun r J => C_X11_dusk_73 e J L (fun r' K => Q r r' K)) := by
  have hC2 := hC
  have hM2 := hM
  have hk2 := hk
  obtain ⟨c0, c1, c2, c3, c4, c5, c6, c7, c8, cS, cD, cN, cA, cT, cM, cR, cF, cO, cH, cL⟩ := hC
  obtain ⟨m0, m1, m2, m3, m4, m5, mS, mU, mL, mF, mO, mH, mA, mK⟩ := hM
  obtain ⟨o0, oT, oZ, oY, oD, o9, oN, o28, oB, oX, oE, oF, oA, oH, oU, oV⟩ := hk
  have f0 : fr SC FC I (va_up I 73 (va_up (I 73) 0 (nI 0))) := fr_73 (fr_refl _ _ _) rfl
  have hdl := dl_l (t := t) (n := t 0 4) (fun j hj => (oF j hj).2.2.2)
  by_cases h0 : t 0 0 ≤ 0
  · have g0 := eq_true h0
    have g1 : (t 0 3 ≤ 0) = True := eq_true (by omega)
    (refine b_X10_dusk_0 ?_; simp (disch := omega) only [pk_mul, nI_add, ksub, kdv, kd8, kd64, kd2, kd3, km8, km64, kt8, ke8, ke64, kcl, kin, kle, klt, keq, up_s, up_n, up_u, true_and, and_true, false_implies, true_implies, not_false_eq_true, not_true_eq_false, c0, g0]; refine b_X11_dusk_73 ?_; simp (disch := omega) only [pk_mul, nI_add, ksub, kdv, kd8, kd64, kd2, kd3, km8, km64, kt8, ke8, ke64, kcl, kin, kle, klt, keq, up_s, up_n, up_u, true_and, and_true, false_implies, true_implies, not_false_eq_true, not_true_eq_false, m0, g1]; exact hQ _ _ f0)
  · have g0 := eq_false h0
    have g1 : (t 0 3 ≤ 0) = False := eq_false (by omega)
    refine b_X10_dusk_0 ?_
    simp (disch := omega) only [pk_mul, nI_add, ksub, kdv, kd8, kd64, kd2, kd3, km8, km64, kt8, ke8, ke64, kcl, kin, kle, klt, keq, up_s, up_n, up_u, true_and, and_true, false_implies, true_implies, not_false_eq_true, not_true_eq_false, c0, g0]
    refine c_pass hC2 hk2 (fun J fJ j1 j2 j3 j4 => ?_)
    have hb := dyL_b hk2 (-1) (dlh t (t 0 4) 24)
    refine c_sum_49 (fr_CT fJ hC2 rfl) j1 hb.2 ?_
    have MJ := fr_MT fJ hM2 rfl
    have m0J := MJ.1
    refine b_X11_dusk_73 ?_
    simp (disch := omega) only [pk_mul, nI_add, ksub, kdv, kd8, kd64, kd2, kd3, km8, km64, kt8, ke8, ke64, kcl, kin, kle, klt, keq, up_s, up_n, up_u, true_and, and_true, false_implies, true_implies, not_false_eq_true, not_true_eq_false, m0J, g1]
    refine c_asDay (MT_0 MJ) hk2 (fun K fK k0 k1 k2 k4 => ?_)
    refine c_sumNow k1 ?_
    exact hQ _ _ (fr_q1 fJ fK rfl rfl rfl rfl)
theorem q_fails {e : am_V} {I : Nat → Nat → Int32} {L : Nat → Nat → Int64} {t : tw} {Q : Int32 → Int32 → (Nat → Nat → Int32) → Prop} (hC : CT t I) (hM : MT t I) (hk : tok t) (hQ : ∀ r J, fr SC FC I J → Q r r J) : C_X10_fails_0 e I L (fun r J => C_X11_fails__73 e J L (fun r' K => Q r r' K)) := by
  have hC2 := hC
  have hM2 := hM
  have hk2 := hk
  obtain ⟨c0, c1, c2, c3, c4, c5, c6, c7, c8, cS, cD, cN, cA, cT, cM, cR, cF, cO, cH, cL⟩ := hC
  obtain ⟨m0, m1, m2, m3, m4, m5, mS, mU, mL, mF, mO, mH, mA, mK⟩ := hM
  obtain ⟨o0, oT, oZ, oY, oD, o9, oN, o28, oB, oX, oE, oF, oA, oH, oU, oV⟩ := hk
  have f0 : fr SC FC I (va_up I 73 (va_up (I 73) 0 (nI 0))) := fr_73 (fr_refl _ _ _) rfl
  have hdl := dl_l (t := t) (n := t 0 4) (fun j hj => (oF j hj).2.2.2)
  by_cases h0 : t 0 0 ≤ 0
  · have g0 := eq_true h0
    have g1 : (t 0 3 ≤ 0) = True := eq_true (by omega)
    (refine b_X10_fails_0 ?_; simp (disch := omega) only [pk_mul, nI_add, ksub, kdv, kd8, kd64, kd2, kd3, km8, km64, kt8, ke8, ke64, kcl, kin, kle, klt, keq, up_s, up_n, up_u, true_and, and_true, false_implies, true_implies, not_false_eq_true, not_true_eq_false, c0, g0]; refine b_X11_fails__73 ?_; simp (disch := omega) only [pk_mul, nI_add, ksub, kdv, kd8, kd64, kd2, kd3, km8, km64, kt8, ke8, ke64, kcl, kin, kle, klt, keq, up_s, up_n, up_u, true_and, and_true, false_implies, true_implies, not_false_eq_true, not_true_eq_false, m0, g1]; exact hQ _ _ f0)
  · have g0 := eq_false h0
    have g1 : (t 0 3 ≤ 0) = False := eq_false (by omega)
    refine b_X10_fails_0 ?_
    simp (disch := omega) only [pk_mul, nI_add, ksub, kdv, kd8, kd64, kd2, kd3, km8, km64, kt8, ke8, ke64, kcl, kin, kle, klt, keq, up_s, up_n, up_u, true_and, and_true, false_implies, true_implies, not_false_eq_true, not_true_eq_false, c0, g0]
    refine c_pass hC2 hk2 (fun J fJ j1 j2 j3 j4 => ?_)
    rw [j3]
    have MJ := fr_MT fJ hM2 rfl
    have m0J := MJ.1
    refine b_X11_fails__73 ?_
    simp (disch := omega) only [pk_mul, nI_add, ksub, kdv, kd8, kd64, kd2, kd3, km8, km64, kt8, ke8, ke64, kcl, kin, kle, klt, keq, up_s, up_n, up_u, true_and, and_true, false_implies, true_implies, not_false_eq_true, not_true_eq_false, m0J, g1]
    refine c_asDay (MT_0 MJ) hk2 (fun K fK k0 k1 k2 k4 => ?_)
    have hfl := dy_fail hk2 hdl.2 (fun j hj => (dlh_m.mp hj).1) (t 0 4) (by omega)
    have htk : (dlh t (t 0 4) 24).take (t 0 4) = dlh t (t 0 4) 24 := by
      have h5 := List.take_length (l := dlh t (t 0 4) 24)
      rw [hdl.1] at h5
      exact h5
    rw [htk] at hfl
    have hlm : ∀ i, i < t 0 4 → (dlh t (t 0 4) 24).getD i 0 ∈ dlh t (t 0 4) 24 := fun i hi => gd_mem (by omega)
    have hlt : ∀ i, i < t 0 4 → (dlh t (t 0 4) 24).getD i 0 < t 0 4 := fun i hi => (dlh_m.mp (hlm i hi)).1
    have MK := fr_MT fK (MT_0 MJ) rfl
    have m4K := MK.2.2.2.2.1
    have hK94 : ∀ i, i < t 0 4 → K 94 ((dlh t (t 0 4) 24).getD i 0) = (dyL t (-1) (dlh t (t 0 4) 24)).2.2.2.2 ((dlh t (t 0 4) 24).getD i 0) := by
      intro i hi
      refine k4 _ (hlm i hi) (fun h => ?_)
      have := km1 (n := (dlh t (t 0 4) 24).getD i 0) (by have := hlt i hi; omega)
      rw [this] at h
      exact h
    generalize dlh t (t 0 4) 24 = l at hfl hlt k0 hK94
    generalize dyL t (-1) l = s at hfl hK94
    refine lp_up (n := t 0 4) (S := Unit) (T := fun i _ => T_X11_fails__73_p21 e (nI i) K L _) (fun i _ => ∀ i', i' < i → s.2.2.2.2 (l.getD i' 0) ≠ (-1 : Int32)) ?_ ?_ 0 () (Nat.zero_le _) (fun i' h => absurd h (Nat.not_lt_zero _))
    · intro i _ hi hno hnext
      have q1 : (t 0 4 ≤ i) = False := eq_false (by omega)
      have e93 := k0 i hi
      have e94 := hK94 i hi
      have b1 := hlt i hi
      refine b_X11_fails__73_p21 ?_
      simp (disch := omega) only [pk_mul, nI_add, ksub, kdv, kd8, kd64, kd2, kd3, km8, km64, kt8, ke8, ke64, kcl, kin, kle, klt, keq, up_s, up_n, up_u, true_and, and_true, false_implies, true_implies, not_false_eq_true, not_true_eq_false, m4K, q1, e93, e94]
      refine ⟨fun hm => ?_, fun hm => hnext () (fun i' hi' => ?_)⟩
      · have hfin : s.2.2.2.1 = nI (l.getD i 0) := by
          rcases hfl with ⟨h1, h2⟩ | ⟨i2, h1, h2, h3, h4⟩
          · exact absurd hm (h2 i hi)
          · rcases Nat.lt_trichotomy i2 i with h | h | h
            · exact absurd h3 (hno i2 h)
            · rw [← h]; exact h2
            · exact absurd hm (h4 i h)
        rw [hfin]
        exact hQ _ _ (fr_q1 fJ fK rfl rfl rfl rfl)
      · by_cases he : i' = i
        · rw [he]; exact hm
        · exact hno i' (by omega)
    · intro _ hno
      have q1 : (t 0 4 ≤ t 0 4) = True := eq_true (Nat.le_refl _)
      refine b_X11_fails__73_p21 ?_
      simp (disch := omega) only [pk_mul, nI_add, ksub, kdv, kd8, kd64, kd2, kd3, km8, km64, kt8, ke8, ke64, kcl, kin, kle, klt, keq, up_s, up_n, up_u, true_and, and_true, false_implies, true_implies, not_false_eq_true, not_true_eq_false, m4K, q1]
      have hfin : s.2.2.2.1 = (-1 : Int32) := by
        rcases hfl with ⟨h1, h2⟩ | ⟨i2, h1, h2, h3, h4⟩
        · exact h1
        · exact absurd h3 (hno i2 h1)
      rw [hfin]
      exact hQ _ _ (fr_q1 fJ fK rfl rfl rfl rfl)
theorem q_goes {e : am_V} {I : Nat → Nat → Int32} {L : Nat → Nat → Int64} {t : tw} {Q : Int32 → Int32 → (Nat → Nat → Int32) → Prop} {v1 : Int32} (hC : CT t I) (hM : MT t I) (hk : tok t) (hQ : ∀ r J, fr SC FC I J → Q r r J) : C_X10_goes_0 e v1 I L (fun r J => C_X11_goes_73 e v1 J L (fun r' K => Q r r' K)) := by
  have hC2 := hC
  have hM2 := hM
  have hk2 := hk
  obtain ⟨c0, c1, c2, c3, c4, c5, c6, c7, c8, cS, cD, cN, cA, cT, cM, cR, cF, cO, cH, cL⟩ := hC
  obtain ⟨m0, m1, m2, m3, m4, m5, mS, mU, mL, mF, mO, mH, mA, mK⟩ := hM
  obtain ⟨o0, oT, oZ, oY, oD, o9, oN, o28, oB, oX, oE, oF, oA, oH, oU, oV⟩ := hk
  have f0 : fr SC FC I (va_up I 73 (va_up (I 73) 0 (nI 0))) := fr_73 (fr_refl _ _ _) rfl
  rcases crs v1 (t 0 4) (by omega) with ax | ⟨ax, dx⟩ | ⟨x, hx, rfl⟩
  · (refine b_X10_goes_0 ?_; simp (disch := omega) only [pk_mul, nI_add, ksub, kdv, kd8, kd64, kd2, kd3, km8, km64, kt8, ke8, ke64, kcl, kin, kle, klt, keq, up_s, up_n, up_u, true_and, and_true, false_implies, true_implies, not_false_eq_true, not_true_eq_false, ax, c7, knl]; refine b_X11_goes_73 ?_; simp (disch := omega) only [pk_mul, nI_add, ksub, kdv, kd8, kd64, kd2, kd3, km8, km64, kt8, ke8, ke64, kcl, kin, kle, klt, keq, up_s, up_n, up_u, true_and, and_true, false_implies, true_implies, not_false_eq_true, not_true_eq_false, ax, m4, kzl, kcz1, kcz3, knl]; exact hQ _ _ f0)
  · (refine b_X10_goes_0 ?_; simp (disch := omega) only [pk_mul, nI_add, ksub, kdv, kd8, kd64, kd2, kd3, km8, km64, kt8, ke8, ke64, kcl, kin, kle, klt, keq, up_s, up_n, up_u, true_and, and_true, false_implies, true_implies, not_false_eq_true, not_true_eq_false, ax, dx, c7, knl]; refine b_X11_goes_73 ?_; simp (disch := omega) only [pk_mul, nI_add, ksub, kdv, kd8, kd64, kd2, kd3, km8, km64, kt8, ke8, ke64, kcl, kin, kle, klt, keq, up_s, up_n, up_u, true_and, and_true, false_implies, true_implies, not_false_eq_true, not_true_eq_false, ax, dx, m4, kzl, kcz1, kcz3, knl]; exact hQ _ _ f0)
  · have gx : (t 0 4 ≤ x) = False := eq_false (by omega)
    have hxm : x ∈ dlh t (t 0 4) 24 := dlh_m.mpr ⟨hx, (oF x hx).2.2.2⟩
    have hxn : nI x ≠ (-1 : Int32) := fun h => by
      have := km1 (n := x) (by omega)
      rw [this] at h
      exact h
    refine b_X10_goes_0 ?_
    simp (disch := omega) only [pk_mul, nI_add, ksub, kdv, kd8, kd64, kd2, kd3, km8, km64, kt8, ke8, ke64, kcl, kin, kle, klt, keq, up_s, up_n, up_u, true_and, and_true, false_implies, true_implies, not_false_eq_true, not_true_eq_false, c7, knl, gx]
    refine c_pass hC2 hk2 (fun J fJ j1 j2 j3 j4 => ?_)
    have e5 := j4 x hxm hxn
    simp (disch := omega) only [pk_mul, nI_add, ksub, kdv, kd8, kd64, kd2, kd3, km8, km64, kt8, ke8, ke64, kcl, kin, kle, klt, keq, up_s, up_n, up_u, true_and, and_true, false_implies, true_implies, not_false_eq_true, not_true_eq_false, e5]
    have MJ := fr_MT fJ hM2 rfl
    have m4J := MJ.2.2.2.2.1
    refine b_X11_goes_73 ?_
    simp (disch := omega) only [pk_mul, nI_add, ksub, kdv, kd8, kd64, kd2, kd3, km8, km64, kt8, ke8, ke64, kcl, kin, kle, klt, keq, up_s, up_n, up_u, true_and, and_true, false_implies, true_implies, not_false_eq_true, not_true_eq_false, m4J, kzl, kcz1, kcz3, knl, gx]
    refine c_asDay (MT_0 MJ) hk2 (fun K fK k0 k1 k2 k4 => ?_)
    have e6 := k4 x hxm hxn
    simp (disch := omega) only [pk_mul, nI_add, ksub, kdv, kd8, kd64, kd2, kd3, km8, km64, kt8, ke8, ke64, kcl, kin, kle, klt, keq, up_s, up_n, up_u, true_and, and_true, false_implies, true_implies, not_false_eq_true, not_true_eq_false, e6]
    exact hQ _ _ (fr_q1 fJ fK rfl rfl rfl rfl)
theorem q_spares {e : am_V} {I : Nat → Nat → Int32} {L : Nat → Nat → Int64} {t : tw} {Q : Int32 → Int32 → (Nat → Nat → Int32) → Prop} {v1 : Int32} (hC : CT t I) (hM : MT t I) (hk : tok t) (hQ : ∀ r J, fr SC FC I J → Q r r J) : C_X10_spares_0 e v1 I L (fun r J => C_X11_spares_73 e v1 J L (fun r' K => Q r r' K)) := by
  have hC2 := hC
  have hM2 := hM
  have hk2 := hk
  obtain ⟨c0, c1, c2, c3, c4, c5, c6, c7, c8, cS, cD, cN, cA, cT, cM, cR, cF, cO, cH, cL⟩ := hC
  obtain ⟨m0, m1, m2, m3, m4, m5, mS, mU, mL, mF, mO, mH, mA, mK⟩ := hM
  obtain ⟨o0, oT, oZ, oY, oD, o9, oN, o28, oB, oX, oE, oF, oA, oH, oU, oV⟩ := hk
  have f0 : fr SC FC I (va_up I 73 (va_up (I 73) 0 (nI 0))) := fr_73 (fr_refl _ _ _) rfl
  rcases crs v1 (t 0 4) (by omega) with ax | ⟨ax, dx⟩ | ⟨x, hx, rfl⟩
  · (refine b_X10_spares_0 ?_; simp (disch := omega) only [pk_mul, nI_add, ksub, kdv, kd8, kd64, kd2, kd3, km8, km64, kt8, ke8, ke64, kcl, kin, kle, klt, keq, up_s, up_n, up_u, true_and, and_true, false_implies, true_implies, not_false_eq_true, not_true_eq_false, ax, c7, knl]; refine b_X11_spares_73 ?_; simp (disch := omega) only [pk_mul, nI_add, ksub, kdv, kd8, kd64, kd2, kd3, km8, km64, kt8, ke8, ke64, kcl, kin, kle, klt, keq, up_s, up_n, up_u, true_and, and_true, false_implies, true_implies, not_false_eq_true, not_true_eq_false, ax, m4, kzl, kcz1, kcz3, knl]; exact hQ _ _ f0)
  · (refine b_X10_spares_0 ?_; simp (disch := omega) only [pk_mul, nI_add, ksub, kdv, kd8, kd64, kd2, kd3, km8, km64, kt8, ke8, ke64, kcl, kin, kle, klt, keq, up_s, up_n, up_u, true_and, and_true, false_implies, true_implies, not_false_eq_true, not_true_eq_false, ax, dx, c7, knl]; refine b_X11_spares_73 ?_; simp (disch := omega) only [pk_mul, nI_add, ksub, kdv, kd8, kd64, kd2, kd3, km8, km64, kt8, ke8, ke64, kcl, kin, kle, klt, keq, up_s, up_n, up_u, true_and, and_true, false_implies, true_implies, not_false_eq_true, not_true_eq_false, ax, dx, m4, kzl, kcz1, kcz3, knl]; exact hQ _ _ f0)
  · have gx : (t 0 4 ≤ x) = False := eq_false (by omega)
    have hdl := dl_l (t := t) (n := t 0 4) (fun j hj => (oF j hj).2.2.2)
    refine b_X10_spares_0 ?_
    simp (disch := omega) only [pk_mul, nI_add, ksub, kdv, kd8, kd64, kd2, kd3, km8, km64, kt8, ke8, ke64, kcl, kin, kle, klt, keq, up_s, up_n, up_u, true_and, and_true, false_implies, true_implies, not_false_eq_true, not_true_eq_false, c7, knl, gx]
    refine c_pass hC2 hk2 (fun J fJ j1 j2 j3 j4 => ?_)
    refine c_pass (fr_CT fJ hC2 rfl) hk2 (fun J2 fJ2 i1 i2 i3 i4 => ?_)
    rw [j2, i2]
    have fJ3 := fr_trans fJ fJ2
    have MJ := fr_MT fJ3 hM2 rfl
    have m4J := MJ.2.2.2.2.1
    refine b_X11_spares_73 ?_
    simp (disch := omega) only [pk_mul, nI_add, ksub, kdv, kd8, kd64, kd2, kd3, km8, km64, kt8, ke8, ke64, kcl, kin, kle, klt, keq, up_s, up_n, up_u, true_and, and_true, false_implies, true_implies, not_false_eq_true, not_true_eq_false, m4J, kzl, kcz1, kcz3, knl, gx]
    refine c_asDay (MT_0 MJ) hk2 (fun K fK k0 k1 k2 k4 => ?_)
    refine c_goesDay (l := dlh t (t 0 4) 24) (fr_MT fK (MT_0 MJ) rfl) hk2 k0 hdl.1 (fun j hj => (dlh_m.mp hj).1) (fun K2 fK2 n1 n2 n3 n4 => ?_)
    rw [k2, n2]
    exact hQ _ _ (fr_q1 fJ3 (fr_trans fK (fr_mono fK2 rfl rfl)) rfl rfl rfl rfl)
theorem q_spent {e : am_V} {I : Nat → Nat → Int32} {L : Nat → Nat → Int64} {t : tw} {Q : Int32 → Int32 → (Nat → Nat → Int32) → Prop} {v1 : Int32} {v2 : Int32} {v3 : Int32} (hC : CT t I) (hM : MT t I) (hk : tok t) (hQ : ∀ r J, fr SC FC I J → Q r r J) : C_X10_spent_0 e v1 v2 v3 I L (fun r J => C_X11_spent_73 e v1 v2 v3 J L (fun r' K => Q r r' K)) := by
  have hC2 := hC
  have hM2 := hM
  have hk2 := hk
  obtain ⟨c0, c1, c2, c3, c4, c5, c6, c7, c8, cS, cD, cN, cA, cT, cM, cR, cF, cO, cH, cL⟩ := hC
  obtain ⟨m0, m1, m2, m3, m4, m5, mS, mU, mL, mF, mO, mH, mA, mK⟩ := hM
  obtain ⟨o0, oT, oZ, oY, oD, o9, oN, o28, oB, oX, oE, oF, oA, oH, oU, oV⟩ := hk
  have f0 : fr SC FC I (va_up I 73 (va_up (I 73) 0 (nI 0))) := fr_73 (fr_refl _ _ _) rfl
  rcases crs v1 (t 0 0) (by omega) with ax | ⟨ax, dx⟩ | ⟨x, hx, rfl⟩
  · (refine b_X10_spent_0 ?_; simp (disch := omega) only [pk_mul, nI_add, ksub, kdv, kd8, kd64, kd2, kd3, km8, km64, kt8, ke8, ke64, kcl, kin, kle, klt, keq, up_s, up_n, up_u, true_and, and_true, false_implies, true_implies, not_false_eq_true, not_true_eq_false, ax, c0, knl]; refine b_X11_spent_73 ?_; simp (disch := omega) only [pk_mul, nI_add, ksub, kdv, kd8, kd64, kd2, kd3, km8, km64, kt8, ke8, ke64, kcl, kin, kle, klt, keq, up_s, up_n, up_u, true_and, and_true, false_implies, true_implies, not_false_eq_true, not_true_eq_false, ax, m1, kzl, kcz, knl]; exact hQ _ _ f0)
  · (refine b_X10_spent_0 ?_; simp (disch := omega) only [pk_mul, nI_add, ksub, kdv, kd8, kd64, kd2, kd3, km8, km64, kt8, ke8, ke64, kcl, kin, kle, klt, keq, up_s, up_n, up_u, true_and, and_true, false_implies, true_implies, not_false_eq_true, not_true_eq_false, ax, dx, c0, knl]; refine b_X11_spent_73 ?_; simp (disch := omega) only [pk_mul, nI_add, ksub, kdv, kd8, kd64, kd2, kd3, km8, km64, kt8, ke8, ke64, kcl, kin, kle, klt, keq, up_s, up_n, up_u, true_and, and_true, false_implies, true_implies, not_false_eq_true, not_true_eq_false, ax, dx, m1, kzl, kcz, knl]; exact hQ _ _ f0)
  · have gx : (t 0 0 ≤ x) = False := eq_false (by omega)
    rcases crs v2 (t 0 0) (by omega) with ay | ⟨ay, dy⟩ | ⟨y, hy, rfl⟩
    · (refine b_X10_spent_0 ?_; simp (disch := omega) only [pk_mul, nI_add, ksub, kdv, kd8, kd64, kd2, kd3, km8, km64, kt8, ke8, ke64, kcl, kin, kle, klt, keq, up_s, up_n, up_u, true_and, and_true, false_implies, true_implies, not_false_eq_true, not_true_eq_false, gx, ay, c0, knl]; refine b_X11_spent_73 ?_; simp (disch := omega) only [pk_mul, nI_add, ksub, kdv, kd8, kd64, kd2, kd3, km8, km64, kt8, ke8, ke64, kcl, kin, kle, klt, keq, up_s, up_n, up_u, true_and, and_true, false_implies, true_implies, not_false_eq_true, not_true_eq_false, gx, ay, m1, kzl, kcz, knl]; exact hQ _ _ f0)
    · (refine b_X10_spent_0 ?_; simp (disch := omega) only [pk_mul, nI_add, ksub, kdv, kd8, kd64, kd2, kd3, km8, km64, kt8, ke8, ke64, kcl, kin, kle, klt, keq, up_s, up_n, up_u, true_and, and_true, false_implies, true_implies, not_false_eq_true, not_true_eq_false, gx, ay, dy, c0, knl]; refine b_X11_spent_73 ?_; simp (disch := omega) only [pk_mul, nI_add, ksub, kdv, kd8, kd64, kd2, kd3, km8, km64, kt8, ke8, ke64, kcl, kin, kle, klt, keq, up_s, up_n, up_u, true_and, and_true, false_implies, true_implies, not_false_eq_true, not_true_eq_false, gx, ay, dy, m1, kzl, kcz, knl]; exact hQ _ _ f0)
    · have gy : (t 0 0 ≤ y) = False := eq_false (by omega)
      rcases crs v3 (t 0 0) (by omega) with az | ⟨az, dz⟩ | ⟨z, hz, rfl⟩
      · (refine b_X10_spent_0 ?_; simp (disch := omega) only [pk_mul, nI_add, ksub, kdv, kd8, kd64, kd2, kd3, km8, km64, kt8, ke8, ke64, kcl, kin, kle, klt, keq, up_s, up_n, up_u, true_and, and_true, false_implies, true_implies, not_false_eq_true, not_true_eq_false, gx, gy, az, c0, knl]; refine b_X11_spent_73 ?_; simp (disch := omega) only [pk_mul, nI_add, ksub, kdv, kd8, kd64, kd2, kd3, km8, km64, kt8, ke8, ke64, kcl, kin, kle, klt, keq, up_s, up_n, up_u, true_and, and_true, false_implies, true_implies, not_false_eq_true, not_true_eq_false, gx, gy, az, m1, kzl, kcz, knl]; exact hQ _ _ f0)
      · (refine b_X10_spent_0 ?_; simp (disch := omega) only [pk_mul, nI_add, ksub, kdv, kd8, kd64, kd2, kd3, km8, km64, kt8, ke8, ke64, kcl, kin, kle, klt, keq, up_s, up_n, up_u, true_and, and_true, false_implies, true_implies, not_false_eq_true, not_true_eq_false, gx, gy, az, dz, c0, knl]; refine b_X11_spent_73 ?_; simp (disch := omega) only [pk_mul, nI_add, ksub, kdv, kd8, kd64, kd2, kd3, km8, km64, kt8, ke8, ke64, kcl, kin, kle, klt, keq, up_s, up_n, up_u, true_and, and_true, false_implies, true_implies, not_false_eq_true, not_true_eq_false, gx, gy, az, dz, m1, kzl, kcz, knl]; exact hQ _ _ f0)
      · have gz : (t 0 0 ≤ z) = False := eq_false (by omega)
        have u1 := o9 (8 * x + y) (by omega)
        have u2 := o9 (8 * y + z) (by omega)
        refine b_X10_spent_0 ?_
        simp (disch := omega) only [pk_mul, nI_add, ksub, kdv, kd8, kd64, kd2, kd3, km8, km64, kt8, ke8, ke64, kcl, kin, kle, klt, keq, up_s, up_n, up_u, true_and, and_true, false_implies, true_implies, not_false_eq_true, not_true_eq_false, c0, knl, gx, gy, gz]
        refine c_pass hC2 hk2 (fun J fJ j1 j2 j3 j4 => ?_)
        have CJ := fr_CT fJ hC2 rfl
        have c0J := CJ.1
        have e1 := CJ.2.2.2.2.2.2.2.2.2.1 (8 * x + y) (by omega)
        have e3 := CJ.2.2.2.2.2.2.2.2.2.1 (8 * y + z) (by omega)
        have MJ := fr_MT fJ hM2 rfl
        have m1J := MJ.2.1
        have e2 := MJ.2.2.2.2.2.2.1 (8 * x + y) (by omega)
        have e4 := MJ.2.2.2.2.2.2.1 (8 * y + z) (by omega)
        by_cases h1 : t 1 (8 * x + y) ≤ 0
        · have q1 := eq_true h1
          simp (disch := omega) only [pk_mul, nI_add, ksub, kdv, kd8, kd64, kd2, kd3, km8, km64, kt8, ke8, ke64, kcl, kin, kle, klt, keq, up_s, up_n, up_u, true_and, and_true, false_implies, true_implies, not_false_eq_true, not_true_eq_false, c0J, knl, q1, e1, e3, gx, gy, gz]
          refine b_X11_spent_73 ?_
          simp (disch := omega) only [pk_mul, nI_add, ksub, kdv, kd8, kd64, kd2, kd3, km8, km64, kt8, ke8, ke64, kcl, kin, kle, klt, keq, up_s, up_n, up_u, true_and, and_true, false_implies, true_implies, not_false_eq_true, not_true_eq_false, m1J, kzl, kcz, knl, q1, e2, e4, gx, gy, gz]
          exact hQ _ _ (fr_q0 fJ rfl rfl)
        · have q1 := eq_false h1
          by_cases h2 : t 1 (8 * y + z) ≤ 0
          · have q2 := eq_true h2
            simp (disch := omega) only [pk_mul, nI_add, ksub, kdv, kd8, kd64, kd2, kd3, km8, km64, kt8, ke8, ke64, kcl, kin, kle, klt, keq, up_s, up_n, up_u, true_and, and_true, false_implies, true_implies, not_false_eq_true, not_true_eq_false, c0J, knl, q1, q2, e1, e3, gx, gy, gz]
            refine b_X11_spent_73 ?_
            simp (disch := omega) only [pk_mul, nI_add, ksub, kdv, kd8, kd64, kd2, kd3, km8, km64, kt8, ke8, ke64, kcl, kin, kle, klt, keq, up_s, up_n, up_u, true_and, and_true, false_implies, true_implies, not_false_eq_true, not_true_eq_false, m1J, kzl, kcz, knl, q1, q2, e2, e4, gx, gy, gz]
            exact hQ _ _ (fr_q0 fJ rfl rfl)
          · have q2 := eq_false h2
            have hT : tB t (64 * x + 8 * y + z) = true := tB_x (by omega) (by omega) (by omega) (by omega) (by omega)
            have e9 := j1 (64 * x + 8 * y + z) (by omega) hT
            simp (disch := omega) only [pk_mul, nI_add, ksub, kdv, kd8, kd64, kd2, kd3, km8, km64, kt8, ke8, ke64, kcl, kin, kle, klt, keq, up_s, up_n, up_u, true_and, and_true, false_implies, true_implies, not_false_eq_true, not_true_eq_false, c0J, knl, q1, q2, e1, e3, e9, gx, gy, gz]
            refine b_X11_spent_73 ?_
            simp (disch := omega) only [pk_mul, nI_add, ksub, kdv, kd8, kd64, kd2, kd3, km8, km64, kt8, ke8, ke64, kcl, kin, kle, klt, keq, up_s, up_n, up_u, true_and, and_true, false_implies, true_implies, not_false_eq_true, not_true_eq_false, m1J, kzl, kcz, knl, q1, q2, e2, e4, gx, gy, gz]
            refine c_asDay (MT_0 MJ) hk2 (fun K fK k0 k1 k2 k4 => ?_)
            have e7 := k1 (64 * x + 8 * y + z) (by omega)
            simp (disch := omega) only [pk_mul, nI_add, ksub, kdv, kd8, kd64, kd2, kd3, km8, km64, kt8, ke8, ke64, kcl, kin, kle, klt, keq, up_s, up_n, up_u, true_and, and_true, false_implies, true_implies, not_false_eq_true, not_true_eq_false, e7]
            exact hQ _ _ (fr_q1 fJ fK rfl rfl rfl rfl)
