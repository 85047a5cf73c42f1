/-! dawn, first, least -/
def BM (t : tw) (b : Option (Nat × Nat × List Nat)) (I : Nat → Nat → Int32) : Prop := match b with
  | none => I 73 37 = (-1 : Int32) ∧ I 73 38 = nI 0
  | some b => b.1 ≤ 6 ∧ b.2.1 ≤ 100000 ∧ I 73 37 = nI b.1 ∧ I 73 38 = nI b.2.1 ∧ ∀ i, i < t 0 4 → I 95 i = nI (b.2.2.getD i 0)
def SM : List Nat := [87, 88, 89, 93, 94, 95]
def FM : List Nat := [27, 28, 34, 35, 37, 38]
theorem c_cp95 {e : am_V} {L : Nat → Nat → Int64} {d n : Nat} {g : Nat → Nat} {W : Nat → Nat → Int32} {Q : (Nat → Nat → Int32) → Prop} (hn : n ≤ 6) (h93 : ∀ i, i < n → W 93 i = nI (g i)) (hQ : ∀ F, (∀ i, i < n → F i = nI (g i)) → Q (va_up W 95 F)) : T_X11_dawns_73_p44 e (d + 1) (nI n) (nI 0) W L Q := by
  have e0 : W = va_up W 95 (W 95) := (up_id _ _).symm
  rw [e0]
  refine lp_up (n := n) (S := Nat → Int32) (T := fun i F => T_X11_dawns_73_p44 e (d + 1) (nI n) (nI i) (va_up W 95 F) L Q) (fun i F => ∀ j, j < i → F j = nI (g j)) ?_ ?_ 0 _ (Nat.zero_le _) (fun j hj => absurd hj (Nat.not_lt_zero j))
  · intro i F hi h1 hnext
    have q1 : (n ≤ i) = False := eq_false (by omega)
    have e1 := h93 i hi
    refine b_X11_dawns_73_p44 ?_
    simp (disch := omega) only [pk_mul, nI_add, ksub, kdv, kd8, kd64, kd2, kd3, km8, km64, kt8, ke8, ke64, kcl, kin, kle, klt, keq, up_s, up_n, up_u, true_and, and_true, false_implies, true_implies, not_false_eq_true, not_true_eq_false, q1, e1]
    refine hnext _ (fun j hj => ?_)
    by_cases he : j = i
    · rw [he, up_s]
    · rw [up_n he]; exact h1 j (by omega)
  · intro F h1
    have q1 : (n ≤ n) = True := eq_true (Nat.le_refl _)
    refine b_X11_dawns_73_p44 ?_
    simp (disch := omega) only [pk_mul, nI_add, ksub, kdv, kd8, kd64, kd2, kd3, km8, km64, kt8, ke8, ke64, kcl, kin, kle, klt, keq, up_s, up_n, up_u, true_and, and_true, false_implies, true_implies, not_false_eq_true, not_true_eq_false, q1]
    exact hQ F h1
theorem m_dawns {e : am_V} {L : Nat → Nat → Int64} {t : tw} (hk : tok t) : ∀ (k : Nat) (l : List Nat) (b : Option (Nat × Nat × List Nat)) (d : Nat) (I : Nat → Nat → Int32) (Q : (Nat → Nat → Int32) → Prop), l.length + k = t 0 4 → oOK t l → MT t I → (∀ i, i < l.length → I 93 i = nI (l.getD i 0)) → BM t b I → k + 1 ≤ d → (∀ J, MT t J → (∀ i, i < l.length → J 93 i = nI (l.getD i 0)) → BM t (dsr t k l b) J → fr SM FM I J → Q J) → C_X11_dawns_73 e d (nI l.length) (nI (msk l)) I L Q := by
  intro k
  induction k with
  | zero =>
    intro l b d I Q hl ho hM h93 hB hd hQ
    obtain ⟨d, rfl⟩ : ∃ d', d = d' + 1 := ⟨d - 1, by omega⟩
    have hk2 := hk
    obtain ⟨o0, oT, oZ, oY, oD, o9, oN, o28, oB, oX, oE, oF, oA, oH, oU, oV⟩ := hk
    have m4 := hM.2.2.2.2.1
    have q1 : (l.length = t 0 4) = True := eq_true (by omega)
    refine b_X11_dawns_73 ?_
    rw [m4, keq (by omega) (by omega), q1]
    refine ⟨fun _ => ?_, fun h => absurd trivial h⟩
    refine c_goesDay hM hk2 (fun i hi => h93 i (by omega)) (by omega) ho.1 (fun J fJ _ g34 g35 _ => ?_)
    have hn := dyL_n hk2 (-1) l ho.1
    have fJ2 : fr SM FM I J := fr_mono fJ rfl rfl
    have k37 : J 73 37 = I 73 37 := fJ.2 37 (by decide)
    have k38 : J 73 38 = I 73 38 := fJ.2 38 (by decide)
    have k95 : J 95 = I 95 := fJ.1 95 (by decide) (by decide)
    have k93 : J 93 = I 93 := fJ.1 93 (by decide) (by decide)
    rw [← k93] at h93
    have hQ2 : ∀ K, BM t (lfd t l b) K → fr SM FM I K → K 93 = J 93 → Q K := fun K x1 x2 x3 => hQ K (fr_MT x2 hM rfl) (by rw [x3]; exact h93) x1 x2
    clear hQ
    unfold lfd at hQ2
    rw [g34, g35, k37, k38]
    generalize dyL t (-1) l = s at *
    have setn : (∀ K, BM t (some (s.2.1, s.2.2.1, l)) K → fr SM FM I K → K 93 = J 93 → Q K) → T_X11_dawns_73_p44 e (d + 1) (nI l.length) (nI 0) (va_up (va_up J 73 (va_up (J 73) 37 (nI s.2.1))) 73 (va_up (va_up (J 73) 37 (nI s.2.1)) 38 (nI s.2.2.1))) L Q := by
      intro hq
      refine c_cp95 (g := fun i => l.getD i 0) (by omega) (fun i hi => h93 i hi) (fun F hF => hq _ ⟨by show s.2.1 ≤ 6; omega, by show s.2.2.1 ≤ 100000; omega, ?_, ?_, fun i hi => hF i (by omega)⟩ (fr_up ?_ rfl) rfl)
      · simp (disch := omega) only [pk_mul, nI_add, ksub, kdv, kd8, kd64, kd2, kd3, km8, km64, kt8, ke8, ke64, kcl, kin, kle, klt, keq, up_s, up_n, up_u, true_and, and_true, false_implies, true_implies, not_false_eq_true, not_true_eq_false]
      · simp (disch := omega) only [pk_mul, nI_add, ksub, kdv, kd8, kd64, kd2, kd3, km8, km64, kt8, ke8, ke64, kcl, kin, kle, klt, keq, up_s, up_n, up_u, true_and, and_true, false_implies, true_implies, not_false_eq_true, not_true_eq_false]
      · have f7 : fr SM FM J (va_up J 73 (va_up (J 73) 37 (nI s.2.1))) := fr_73 (fr_refl _ _ _) rfl
        have f8 := fr_73 (k := 38) (v := nI s.2.2.1) f7 rfl
        rw [up_s] at f8
        exact fr_trans fJ2 f8
    cases b with
    | none =>
      obtain ⟨g1, g2⟩ := hB
      rw [g1, kle1 (by omega)]
      exact ⟨fun h => h.elim, fun _ => setn hQ2⟩
    | some b =>
      obtain ⟨g1, g2, g3, g4, g5⟩ := hB
      dsimp only at hQ2
      rw [g3, g4]
      by_cases h1 : b.1 < s.2.1
      · rw [if_pos h1] at hQ2
        have q1 : (s.2.1 ≤ b.1) = False := eq_false (by omega)
        rw [kle (by omega) (by omega), q1]
        exact ⟨fun h => h.elim, fun _ => setn hQ2⟩
      · rw [if_neg h1] at hQ2
        have q1 : (s.2.1 ≤ b.1) = True := eq_true (by omega)
        rw [kle (by omega) (by omega), q1]
        refine ⟨fun _ => ⟨fun h2 => ?_, fun h2 => ?_⟩, fun h => absurd trivial h⟩
        · rw [nI_eq (by omega) (by omega)] at h2
          rw [if_pos h2] at hQ2
          refine ⟨fun h3 => ?_, fun h3 => ?_⟩
          · rw [nI_leI (by omega) (by omega)] at h3
            rw [if_neg (by omega)] at hQ2
            exact hQ2 J ⟨g1, g2, by rw [k37]; exact g3, by rw [k38]; exact g4, by rw [k95]; exact g5⟩ fJ2 rfl
          · rw [nI_leI (by omega) (by omega)] at h3
            rw [if_pos (by omega)] at hQ2
            refine hQ2 _ ⟨g1, by show s.2.2.1 ≤ 100000; omega, ?_, ?_, fun i hi => ?_⟩ (fr_73 fJ2 rfl) rfl
            · simp (disch := omega) only [pk_mul, nI_add, ksub, kdv, kd8, kd64, kd2, kd3, km8, km64, kt8, ke8, ke64, kcl, kin, kle, klt, keq, up_s, up_n, up_u, true_and, and_true, false_implies, true_implies, not_false_eq_true, not_true_eq_false, k37, g3]
            · simp (disch := omega) only [pk_mul, nI_add, ksub, kdv, kd8, kd64, kd2, kd3, km8, km64, kt8, ke8, ke64, kcl, kin, kle, klt, keq, up_s, up_n, up_u, true_and, and_true, false_implies, true_implies, not_false_eq_true, not_true_eq_false]
            · show J 95 i = _
              rw [k95]; exact g5 i hi
        · have h3 : ¬ s.2.1 = b.1 := fun h => h2 (by rw [h])
          rw [if_neg h3] at hQ2
          exact hQ2 J ⟨g1, g2, by rw [k37]; exact g3, by rw [k38]; exact g4, by rw [k95]; exact g5⟩ fJ2 rfl
  | succ k ih =>
    intro l b d I Q hl ho hM h93 hB hd hQ
    obtain ⟨d, rfl⟩ : ∃ d', d = d' + 1 := ⟨d - 1, by omega⟩
    have hk2 := hk
    obtain ⟨o0, oT, oZ, oY, oD, o9, oN, o28, oB, oX, oE, oF, oA, oH, oU, oV⟩ := hk
    have m4 := hM.2.2.2.2.1
    have q1 : (l.length = t 0 4) = False := eq_false (by omega)
    refine b_X11_dawns_73 ?_
    rw [m4, keq (by omega) (by omega), q1]
    refine ⟨fun h => h.elim, fun _ => ?_⟩
    refine lp_up (n := t 0 4) (S := Nat → Nat → Int32) (T := fun j J => T_X11_dawns_73_p103 e (d + 1) (nI l.length) (nI (msk l)) (nI j) J L Q) (fun j J => MT t J ∧ (∀ i, i < l.length → J 93 i = nI (l.getD i 0)) ∧ BM t (acc (fun j b => if l.contains j = true then b else dsr t k (l ++ [j]) b) b j) J ∧ fr SM FM I J) ?_ ?_ 0 I (Nat.zero_le _) ⟨hM, h93, hB, fr_refl _ _ _⟩
    · rintro j J hj ⟨i1, i2, i3, fJ⟩ hnext
      have m4 := i1.2.2.2.2.1
      have q3 : (t 0 4 ≤ j) = False := eq_false (by omega)
      have hbt := kbt (msk l) (bts_b _ 8) j (by omega)
      have htb : Nat.testBit (msk l) j = l.contains j := by
        unfold msk
        rw [bts_t, decide_eq_true (by omega : j < 8), Bool.true_and]
      rw [htb] at hbt
      refine b_X11_dawns_73_p103 ?_
      cases hc : l.contains j with
      | true =>
        have q4 : ((nI (msk l) >>> (nI j &&& 31)) &&& nI 1 = nI 1) = True := eq_true (hbt.mpr hc)
        simp (disch := omega) only [pk_mul, nI_add, ksub, kdv, kd8, kd64, kd2, kd3, km8, km64, kt8, ke8, ke64, kcl, kin, kle, klt, keq, up_s, up_n, up_u, true_and, and_true, false_implies, true_implies, not_false_eq_true, not_true_eq_false, m4, q3, q4]
        refine hnext J ⟨i1, i2, ?_, fJ⟩
        rw [acc_s, if_pos hc]
        exact i3
      | false =>
        have q4 : ((nI (msk l) >>> (nI j &&& 31)) &&& nI 1 = nI 1) = False := eq_false (fun h => by rw [hbt.mp h] at hc; cases hc)
        have sh := ksh j (by omega)
        have mk := msk_a (l := l) (j := j) (by omega)
        simp (disch := omega) only [pk_mul, nI_add, ksub, kdv, kd8, kd64, kd2, kd3, km8, km64, kt8, ke8, ke64, kcl, kin, kle, klt, keq, up_s, up_n, up_u, true_and, and_true, false_implies, true_implies, not_false_eq_true, not_true_eq_false, m4, q3, q4, sh, fa_or, mk]
        have ho2 := oOK_a ho hj oE hc
        have hla : (l ++ [j]).length = l.length + 1 := by rw [List.length_append]; rfl
        rw [← hla]
        have fU : fr SM FM J (va_up J 93 (va_up (J 93) l.length (nI j))) := fr_up (fr_refl _ _ _) rfl
        refine ih (l ++ [j]) (acc (fun j b => if l.contains j = true then b else dsr t k (l ++ [j]) b) b j) d _ _ (by omega) ho2 (fr_MT fU i1 rfl) (fun i hi => ?_) ?_ (by omega) (fun K k1 k2 k3 k4 => ?_)
        · simp (disch := omega) only [pk_mul, nI_add, ksub, kdv, kd8, kd64, kd2, kd3, km8, km64, kt8, ke8, ke64, kcl, kin, kle, klt, keq, up_s, up_n, up_u, true_and, and_true, false_implies, true_implies, not_false_eq_true, not_true_eq_false]
          by_cases he : i = l.length
          · rw [he, up_s, gd_r (Nat.le_refl _), Nat.sub_self]
            rfl
          · rw [up_n he, gd_l (by omega)]
            exact i2 i (by omega)
        · exact i3
        · refine hnext K ⟨k1, fun i hi => ?_, ?_, fr_trans fJ (fr_trans fU k4)⟩
          · rw [k2 i (by omega), gd_l hi]
          · rw [acc_s, if_neg (by rw [hc]; decide)]
            exact k3
    · rintro J ⟨i1, i2, i3, fJ⟩
      have m4 := i1.2.2.2.2.1
      have q3 : (t 0 4 ≤ t 0 4) = True := eq_true (Nat.le_refl _)
      refine b_X11_dawns_73_p103 ?_
      simp (disch := omega) only [pk_mul, nI_add, ksub, kdv, kd8, kd64, kd2, kd3, km8, km64, kt8, ke8, ke64, kcl, kin, kle, klt, keq, up_s, up_n, up_u, true_and, and_true, false_implies, true_implies, not_false_eq_true, not_true_eq_false, m4, q3]
      exact hQ J i1 i2 i3 fJ
theorem dsr_k (t : tw) : ∀ k l b, b.isSome = true → (dsr t k l b).isSome = true := by
  intro k
  induction k with
  | zero =>
    intro l b h
    show (lfd t l b).isSome = true
    cases b with
    | none => rfl
    | some b =>
      unfold lfd
      dsimp only
      split
      · rfl
      · split <;> rfl
  | succ k ih =>
    intro l b h
    show (acc _ b (t 0 4)).isSome = true
    generalize t 0 4 = n
    induction n with
    | zero => exact h
    | succ n ihn =>
      rw [acc_s]
      split
      · exact ihn
      · exact ih _ _ ihn
theorem dsr_s {t : tw} (h6 : t 0 4 ≤ 6) : ∀ k l b, l.length + k = t 0 4 → oOK t l → (dsr t k l b).isSome = true := by
  intro k
  induction k with
  | zero =>
    intro l b hl ho
    cases b with
    | none => rfl
    | some b => exact dsr_k t 0 l (some b) rfl
  | succ k ih =>
    intro l b hl ho
    have hex : ∃ j, j < t 0 4 ∧ l.contains j = false := by
      apply Classical.byContradiction
      intro hne
      have hall : ∀ j, j < t 0 4 → l.contains j = true := fun j hj => by
        cases hc : l.contains j with
        | true => rfl
        | false => exact absurd ⟨j, hj, hc⟩ hne
      have h1 : cn (fun j => l.contains j) 8 = cn (fun j => l.contains j) (t 0 4) := cn_x (by omega) (fun k h1 h2 => by
        cases hc : l.contains k with
        | false => rfl
        | true => have := ho.1 k (List.contains_iff_mem.mp hc); omega)
      have h2 : cn (fun j => l.contains j) (t 0 4) = cn (fun _ => true) (t 0 4) := cn_c (fun k hk => hall k hk)
      rw [ho.2, h2, cn_t] at h1
      omega
    obtain ⟨j, hj, hc⟩ := hex
    show (acc _ b (t 0 4)).isSome = true
    have key : ∀ n, n ≤ t 0 4 → j < n → (acc (fun j b => if l.contains j = true then b else dsr t k (l ++ [j]) b) b n).isSome = true := by
      intro n
      induction n with
      | zero => intro _ h; omega
      | succ n ihn =>
        intro hn h
        rw [acc_s]
        by_cases he : j = n
        · rw [← he, if_neg (by rw [hc]; decide)]
          exact ih _ _ (by rw [List.length_append]; show l.length + 1 + k = _; omega) (oOK_a ho hj h6 hc)
        · split
          · exact ihn (by omega) (by omega)
          · exact dsr_k t k _ _ (ihn (by omega) (by omega))
    exact key _ (Nat.le_refl _) hj
noncomputable def Bt (t : tw) : Nat × Nat × (Nat → Nat) := match dsr t (t 0 4) [] none with
  | none => (0, 0, fun _ => 0)
  | some b => (b.1, b.2.1, fun i => b.2.2.getD i 0)
theorem oOK_n (t : tw) : oOK t [] := ⟨(fun j h => by cases h), cn_z (fun _ _ => rfl)⟩
theorem BC_t {t : tw} {J : Nat → Nat → Int32} (hk : tok t) (h : BC t (dsr t (t 0 4) [] none) J) : J 51 4 = nI (Bt t).1 ∧ J 51 5 = nI (Bt t).2.1 ∧ ∀ j, j < t 0 4 → J 61 j = nI ((Bt t).2.2 j) := by
  obtain ⟨o0, oT, oZ, oY, oD, o9, oN, o28, oB, oX, oE, oF, oA, oH, oU, oV⟩ := hk
  have hs := dsr_s oE (t 0 4) [] none (by show 0 + t 0 4 = _; omega) (oOK_n t)
  unfold Bt
  cases hd : dsr t (t 0 4) [] none with
  | none => rw [hd] at hs; cases hs
  | some b =>
    rw [hd] at h
    exact ⟨h.2.2.1, h.2.2.2.1, h.2.2.2.2⟩
theorem BM_t {t : tw} {J : Nat → Nat → Int32} (hk : tok t) (h : BM t (dsr t (t 0 4) [] none) J) : J 73 37 = nI (Bt t).1 ∧ J 73 38 = nI (Bt t).2.1 ∧ ∀ j, j < t 0 4 → J 95 j = nI ((Bt t).2.2 j) := by
  obtain ⟨o0, oT, oZ, oY, oD, o9, oN, o28, oB, oX, oE, oF, oA, oH, oU, oV⟩ := hk
  have hs := dsr_s oE (t 0 4) [] none (by show 0 + t 0 4 = _; omega) (oOK_n t)
  unfold Bt
  cases hd : dsr t (t 0 4) [] none with
  | none => rw [hd] at hs; cases hs
  | some b =>
    rw [hd] at h
    exact ⟨h.2.2.1, h.2.2.2.1, h.2.2.2.2⟩
theorem SO_n {a : Nat} (h : SO.contains a = false) : a ∉ SO := fun hm => by
  rw [List.contains_iff_mem.mpr hm] at h
  cases h
theorem Rel_o {e : am_V} {t : tw} {I J : Nat → Nat → Int32} {L : Nat → Nat → Int64} {m : Nat} (h : Rel Bt e t I L m) (f : fr SO [] I J) (hB : J 51 4 = nI (Bt t).1 ∧ J 51 5 = nI (Bt t).2.1 ∧ ∀ j, j < t 0 4 → J 61 j = nI ((Bt t).2.2 j)) : Rel Bt e t (va_up J 0 (va_up (J 0) 13 (J 0 12))) L m := by
  obtain ⟨h1, h2, h3, h4, h5, h6, h7⟩ := h
  have g : ∀ a, SO.contains a = false → a ≠ 73 → a ≠ 0 → va_up J 0 (va_up (J 0) 13 (J 0 12)) a = I a := fun a ha h9 h0 => (up_n h0).trans (f.1 a (SO_n ha) h9)
  have g0 : J 0 = I 0 := f.1 0 (SO_n rfl) (by decide)
  have g73 : ∀ k, va_up J 0 (va_up (J 0) 13 (J 0 12)) 73 k = I 73 k := fun k => f.2 k (by intro h; cases h)
  have big : ∀ a, 97 ≤ a → va_up J 0 (va_up (J 0) 13 (J 0 12)) a = I a := fun a ha => (up_n (by omega)).trans (f.1 a (fun hm => by simp only [SO, List.mem_cons, List.mem_nil_iff, or_false] at hm; omega) (by omega))
  have mid : ∀ a, 79 ≤ a → a ≤ 85 → va_up J 0 (va_up (J 0) 13 (J 0 12)) a = I a := fun a ha hb => (up_n (by omega)).trans (f.1 a (fun hm => by simp only [SO, List.mem_cons, List.mem_nil_iff, or_false] at hm; omega) (by omega))
  refine ⟨h1, CTb_c (b := 3) (fun a h7 h8 => (up_n (by omega)).trans (f.1 a (fun hm => by simp only [SO, List.mem_cons, List.mem_nil_iff, or_false] at hm; omega) (by omega))) h2, MT_w.mpr (MTw_c mid (MT_w.mp h3)), ?_, SL_c h5 (fun s hs => ?_) (g 74 rfl (by decide) (by decide)) (g 75 rfl (by decide) (by decide)) (frL_r L), IM_c h6 (g 86 rfl (by decide) (by decide)) big mid, ?_⟩
  · obtain ⟨tp, x1, x2, x3, x4, x5, x6⟩ := h4
    refine ⟨tp, x1, ?_, ?_, ?_, ?_, ?_⟩
    · rw [g 37 rfl (by decide) (by decide)]; exact x2
    · rw [g73]; exact x3
    · rw [g 1 rfl (by decide) (by decide), g 78 rfl (by decide) (by decide)]; exact x4
    · rw [g73, g 37 rfl (by decide) (by decide)]; exact x5
    · rw [g73, g 37 rfl (by decide) (by decide)]; exact x6
  · have : s = 0 ∨ s = 1 ∨ s = 2 ∨ s = 3 := by omega
    rcases this with rfl | rfl | rfl | rfl
    · exact g 29 rfl (by decide) (by decide)
    · exact g 31 rfl (by decide) (by decide)
    · exact g 33 rfl (by decide) (by decide)
    · exact g 35 rfl (by decide) (by decide)
  · obtain ⟨c, hc, e1, e2, e3⟩ := h7
    refine ⟨c, hc, ?_, Or.inr ⟨c, Nat.le_refl _, ?_⟩, fun _ => hB⟩
    · rw [up_s, up_n (by decide), g0]; exact e1
    · rw [up_s, up_s, g0]; exact e1
/-- the class's best: cached or tried -/
theorem c_best {e : am_V} {t : tw} {I : Nat → Nat → Int32} {L : Nat → Nat → Int64} {m : Nat} (hR : Rel Bt e t I L m) {Q : (Nat → Nat → Int32) → Prop} (hQ : ∀ J, Rel Bt e t (va_up J 0 (va_up (J 0) 13 (J 0 12))) L m → (J 51 4 = nI (Bt t).1 ∧ J 51 5 = nI (Bt t).2.1 ∧ ∀ j, j < t 0 4 → J 61 j = nI ((Bt t).2.2 j)) → Q J) : C_X3_tryFrom_51_3_38 e 30 (nI 0) (nI 0) (nI 0) (va_up (va_up (va_up I 52 (va_cpy (I 10) (I 52) 0 0 512)) 51 (va_up (I 51) 4 (-1 : Int32))) 51 (va_up (va_up (I 51) 4 (-1 : Int32)) 5 (nI 0))) L Q := by
  have hk := hR.1
  have hC := hR.2.1
  have hk2 := hk
  have hC2 := hC
  obtain ⟨c0, c1, c2, c3, c4, c5, c6, c7, c8, cS, cD, cN, cA, cT, cM, cR, cF, cO, cH, cL⟩ := hC
  obtain ⟨o0, oT, oZ, oY, oD, o9, oN, o28, oB, oX, oE, oF, oA, oH, oU, oV⟩ := hk
  have f1 : fr SO [] I (va_up (va_up (va_up I 52 (va_cpy (I 10) (I 52) 0 0 512)) 51 (va_up (I 51) 4 (-1 : Int32))) 51 (va_up (va_up (I 51) 4 (-1 : Int32)) 5 (nI 0))) := fr_up (fr_up (fr_up (fr_refl _ _ _) rfl) rfl) rfl
  have hrun := c_tryFrom (e := e) (L := L) hk2 (t 0 4) [] (by show 0 + t 0 4 = _; omega) (oOK_n t) none 30 _ Q ⟨fr_CT f1 hC2 rfl, fun k h1 h2 => ?_, (fun i hi => absurd hi (Nat.not_lt_zero i)), ?_⟩ (by omega) (fun J j1 j2 _ => ?_)
  · have z : msk [] = 0 := by decide
    rw [z] at hrun
    exact hrun
  · show va_cpy (I 10) (I 52) 0 0 512 k = _
    rw [cpy0 h1]
    exact cR k h1 h2
  · refine ⟨?_, ?_⟩
    · simp (disch := omega) only [pk_mul, nI_add, ksub, kdv, kd8, kd64, kd2, kd3, km8, km64, kt8, ke8, ke64, kcl, kin, kle, klt, keq, up_s, up_n, up_u, true_and, and_true, false_implies, true_implies, not_false_eq_true, not_true_eq_false]
    · simp (disch := omega) only [pk_mul, nI_add, ksub, kdv, kd8, kd64, kd2, kd3, km8, km64, kt8, ke8, ke64, kcl, kin, kle, klt, keq, up_s, up_n, up_u, true_and, and_true, false_implies, true_implies, not_false_eq_true, not_true_eq_false]
  · have hB := BC_t hk2 j1.2.2.2
    exact hQ J (Rel_o hR (fr_trans f1 j2) hB) hB
/-- the reference's -/
theorem m_best {e : am_V} {t : tw} {I : Nat → Nat → Int32} {L : Nat → Nat → Int64} {m : Nat} (hR : Rel Bt e t I L m) {Q : (Nat → Nat → Int32) → Prop} (hQ : ∀ J, Rel Bt e t J L m → (J 73 37 = nI (Bt t).1 ∧ J 73 38 = nI (Bt t).2.1 ∧ ∀ j, j < t 0 4 → J 95 j = nI ((Bt t).2.2 j)) → Q J) : C_X11_dawns_73 e 30 (nI 0) (nI 0) (va_up (va_up (va_up I 73 (va_up (I 73) 0 (nI 0))) 73 (va_up (va_up (I 73) 0 (nI 0)) 37 (-1 : Int32))) 73 (va_up (va_up (va_up (I 73) 0 (nI 0)) 37 (-1 : Int32)) 38 (nI 0))) L Q := by
  have hk := hR.1
  have hM := hR.2.2.1
  have hk2 := hk
  obtain ⟨o0, oT, oZ, oY, oD, o9, oN, o28, oB, oX, oE, oF, oA, oH, oU, oV⟩ := hk
  have f1 : fr SC FC I (va_up (va_up (va_up I 73 (va_up (I 73) 0 (nI 0))) 73 (va_up (va_up (I 73) 0 (nI 0)) 37 (-1 : Int32))) 73 (va_up (va_up (va_up (I 73) 0 (nI 0)) 37 (-1 : Int32)) 38 (nI 0))) := by
    have f7 : fr SC FC I (va_up I 73 (va_up (I 73) 0 (nI 0))) := fr_73 (fr_refl _ _ _) rfl
    have f8 := fr_73 (k := 37) (v := (-1 : Int32)) f7 rfl
    rw [up_s] at f8
    have f9 := fr_73 (k := 38) (v := nI 0) f8 rfl
    rw [up_s] at f9
    exact f9
  have hrun := m_dawns (e := e) (L := L) hk2 (t 0 4) [] none 30 _ Q (by show 0 + t 0 4 = _; omega) (oOK_n t) (fr_MT f1 hM rfl) (fun i hi => absurd hi (Nat.not_lt_zero i)) ?_ (by omega) (fun J j1 j2 j3 j4 => ?_)
  · have z : msk [] = 0 := by decide
    rw [z] at hrun
    exact hrun
  · refine ⟨?_, ?_⟩
    · simp (disch := omega) only [pk_mul, nI_add, ksub, kdv, kd8, kd64, kd2, kd3, km8, km64, kt8, ke8, ke64, kcl, kin, kle, klt, keq, up_s, up_n, up_u, true_and, and_true, false_implies, true_implies, not_false_eq_true, not_true_eq_false]
    · simp (disch := omega) only [pk_mul, nI_add, ksub, kdv, kd8, kd64, kd2, kd3, km8, km64, kt8, ke8, ke64, kcl, kin, kle, klt, keq, up_s, up_n, up_u, true_and, and_true, false_implies, true_implies, not_false_eq_true, not_true_eq_false]
  · exact hQ J (Rel_q hR (fr_trans f1 (fr_mono j4 rfl rfl)) (frL_r L) (Nat.le_refl _)) (BM_t hk2 j3)
theorem r_dawn {e : am_V} {t : tw} {I : Nat → Nat → Int32} {L : Nat → Nat → Int64} {m : Nat} {Q : Int32 → Int32 → (Nat → Nat → Int32) → Prop} (hR : Rel Bt e t I L m) (hQ : ∀ r J, Rel Bt e t J L m → Q r r J) : C_X10_dawn_0 e I L (fun r J => C_X11_dawn_73 e J L (fun r' K => Q r r' K)) := by
  have f1 : Rel Bt e t (va_up I 73 (va_up (I 73) 0 (nI 0))) L m := Rel_q hR (fr_73 (fr_refl _ _ _) rfl) (frL_r L) (Nat.le_refl _)
  have hk := hR.1
  have hC := hR.2.1
  have hM := hR.2.2.1
  obtain ⟨c, _, _, _, hoc⟩ := hR.2.2.2.2.2.2
  obtain ⟨c0, c1, c2, c3, c4, c5, c6, c7, c8, cS, cD, cN, cA, cT, cM, cR, cF, cO, cH, cL⟩ := hC
  obtain ⟨m0, m1, m2, m3, m4, m5, mS, mU, mL, mF, mO, mH, mA, mK⟩ := hM
  obtain ⟨o0, oT, oZ, oY, oD, o9, oN, o28, oB, oX, oE, oF, oA, oH, oU, oV⟩ := hk
  by_cases h0 : t 0 0 ≤ 0
  · have q0 := eq_true h0
    have q00 : (t 0 3 ≤ 0) = True := eq_true (by omega)
    refine b_X10_dawn_0 ?_
    simp (disch := omega) only [pk_mul, nI_add, ksub, kdv, kd8, kd64, kd2, kd3, km8, km64, kt8, ke8, ke64, kcl, kin, kle, klt, keq, up_s, up_n, up_u, true_and, and_true, false_implies, true_implies, not_false_eq_true, not_true_eq_false, c0, q0]
    refine b_X11_dawn_73 ?_
    simp (disch := omega) only [pk_mul, nI_add, ksub, kdv, kd8, kd64, kd2, kd3, km8, km64, kt8, ke8, ke64, kcl, kin, kle, klt, keq, up_s, up_n, up_u, true_and, and_true, false_implies, true_implies, not_false_eq_true, not_true_eq_false, m0, q00]
    exact hQ _ _ f1
  · have q0 := eq_false h0
    have q00 : (t 0 3 ≤ 0) = False := eq_false (by omega)
    have fin : ∀ J, Rel Bt e t J L m → C_X11_dawn_73 e J L (fun r' K => Q (nI (Bt t).1) r' K) := by
      intro J hJ
      have j79 := hJ.2.2.1.1
      refine b_X11_dawn_73 ?_
      rw [j79, kle (by omega) (by omega), q00]
      refine ⟨fun h => h.elim, fun _ => m_best hJ (fun K hK hB => ?_)⟩
      rw [hB.1]
      exact hQ _ _ hK
    refine b_X10_dawn_0 ?_
    rw [c0, kle (by omega) (by omega), q0]
    refine ⟨fun h => h.elim, fun _ => ⟨fun he => ?_, fun _ => ?_⟩⟩
    · rw [(hoc he).1]
      exact fin I hR
    · refine c_best hR (fun J hJ hB => ?_)
      rw [hB.1]
      exact fin _ hJ
theorem r_least {e : am_V} {t : tw} {I : Nat → Nat → Int32} {L : Nat → Nat → Int64} {m : Nat} {Q : Int32 → Int32 → (Nat → Nat → Int32) → Prop} (hR : Rel Bt e t I L m) (hQ : ∀ r J, Rel Bt e t J L m → Q r r J) : C_X10_least_0 e I L (fun r J => C_X11_least_73 e J L (fun r' K => Q r r' K)) := by
  have f1 : Rel Bt e t (va_up I 73 (va_up (I 73) 0 (nI 0))) L m := Rel_q hR (fr_73 (fr_refl _ _ _) rfl) (frL_r L) (Nat.le_refl _)
  have hk := hR.1
  have hC := hR.2.1
  have hM := hR.2.2.1
  obtain ⟨c, _, _, _, hoc⟩ := hR.2.2.2.2.2.2
  obtain ⟨c0, c1, c2, c3, c4, c5, c6, c7, c8, cS, cD, cN, cA, cT, cM, cR, cF, cO, cH, cL⟩ := hC
  obtain ⟨m0, m1, m2, m3, m4, m5, mS, mU, mL, mF, mO, mH, mA, mK⟩ := hM
  obtain ⟨o0, oT, oZ, oY, oD, o9, oN, o28, oB, oX, oE, oF, oA, oH, oU, oV⟩ := hk
  by_cases h0 : t 0 0 ≤ 0
  · have q0 := eq_true h0
    have q00 : (t 0 3 ≤ 0) = True := eq_true (by omega)
    refine b_X10_least_0 ?_
    simp (disch := omega) only [pk_mul, nI_add, ksub, kdv, kd8, kd64, kd2, kd3, km8, km64, kt8, ke8, ke64, kcl, kin, kle, klt, keq, up_s, up_n, up_u, true_and, and_true, false_implies, true_implies, not_false_eq_true, not_true_eq_false, c0, q0]
    refine b_X11_least_73 ?_
    simp (disch := omega) only [pk_mul, nI_add, ksub, kdv, kd8, kd64, kd2, kd3, km8, km64, kt8, ke8, ke64, kcl, kin, kle, klt, keq, up_s, up_n, up_u, true_and, and_true, false_implies, true_implies, not_false_eq_true, not_true_eq_false, m0, q00]
    exact hQ _ _ f1
  · have q0 := eq_false h0
    have q00 : (t 0 3 ≤ 0) = False := eq_false (by omega)
    have fin : ∀ J, Rel Bt e t J L m → C_X11_least_73 e J L (fun r' K => Q (nI (Bt t).2.1) r' K) := by
      intro J hJ
      have j79 := hJ.2.2.1.1
      refine b_X11_least_73 ?_
      rw [j79, kle (by omega) (by omega), q00]
      refine ⟨fun h => h.elim, fun _ => m_best hJ (fun K hK hB => ?_)⟩
      rw [hB.2.1]
      exact hQ _ _ hK
    refine b_X10_least_0 ?_
    rw [c0, kle (by omega) (by omega), q0]
    refine ⟨fun h => h.elim, fun _ => ⟨fun he => ?_, fun _ => ?_⟩⟩
    · rw [(hoc he).2.1]
      exact fin I hR
    · refine c_best hR (fun J hJ hB => ?_)
      rw [hB.2.1]
      exact fin _ hJ
theorem r_first {e : am_V} {t : tw} {I : Nat → Nat → Int32} {L : Nat → Nat → Int64} {m : Nat} {v1 : Int32} {Q : Int32 → Int32 → (Nat → Nat → Int32) → Prop} (hR : Rel Bt e t I L m) (hQ : ∀ r J, Rel Bt e t J L m → Q r r J) : C_X10_first_0 e v1 I L (fun r J => C_X11_first_73 e v1 J L (fun r' K => Q r r' K)) := by
  have f1 : Rel Bt e t (va_up I 73 (va_up (I 73) 0 (nI 0))) L m := Rel_q hR (fr_73 (fr_refl _ _ _) rfl) (frL_r L) (Nat.le_refl _)
  have hk := hR.1
  have hC := hR.2.1
  have hM := hR.2.2.1
  obtain ⟨c, _, _, _, hoc⟩ := hR.2.2.2.2.2.2
  obtain ⟨c0, c1, c2, c3, c4, c5, c6, c7, c8, cS, cD, cN, cA, cT, cM, cR, cF, cO, cH, cL⟩ := hC
  obtain ⟨m0, m1, m2, m3, m4, m5, mS, mU, mL, mF, mO, mH, mA, mK⟩ := hM
  obtain ⟨o0, oT, oZ, oY, oD, o9, oN, o28, oB, oX, oE, oF, oA, oH, oU, oV⟩ := hk
  by_cases h0 : t 0 0 ≤ 0
  · have q0 := eq_true h0
    have q00 : (t 0 3 ≤ 0) = True := eq_true (by omega)
    refine b_X10_first_0 ?_
    simp (disch := omega) only [pk_mul, nI_add, ksub, kdv, kd8, kd64, kd2, kd3, km8, km64, kt8, ke8, ke64, kcl, kin, kle, klt, keq, up_s, up_n, up_u, true_and, and_true, false_implies, true_implies, not_false_eq_true, not_true_eq_false, c0, q0]
    refine b_X11_first_73 ?_
    simp (disch := omega) only [pk_mul, nI_add, ksub, kdv, kd8, kd64, kd2, kd3, km8, km64, kt8, ke8, ke64, kcl, kin, kle, klt, keq, up_s, up_n, up_u, true_and, and_true, false_implies, true_implies, not_false_eq_true, not_true_eq_false, m0, q00]
    exact hQ _ _ f1
  · have q0 := eq_false h0
    have q00 : (t 0 3 ≤ 0) = False := eq_false (by omega)
    have fin : ∀ r J, Rel Bt e t J L m → ((v1 < nI 0 ∧ r = (-1 : Int32)) ∨ (¬ v1 < nI 0 ∧ nI (t 0 4) ≤ v1 ∧ r = (-1 : Int32)) ∨ (∃ j, j < t 0 4 ∧ v1 = nI j ∧ r = nI ((Bt t).2.2 j))) → C_X11_first_73 e v1 J L (fun r' K => Q r r' K) := by
      intro r J hJ hr
      have j79 := hJ.2.2.1.1
      refine b_X11_first_73 ?_
      rw [j79, kle (by omega) (by omega), q00]
      refine ⟨fun h => h.elim, fun _ => m_best hJ (fun K hK hB => ?_)⟩
      have k4 : K 80 3 = nI (t 0 4) := hK.2.2.1.2.2.2.2.1
      rw [k4]
      rcases hr with ⟨a, rfl⟩ | ⟨a, d, rfl⟩ | ⟨j, hj, rfl, rfl⟩
      · simp (disch := omega) only [pk_mul, nI_add, ksub, kdv, kd8, kd64, kd2, kd3, km8, km64, kt8, ke8, ke64, kcl, kin, kle, klt, keq, up_s, up_n, up_u, true_and, and_true, false_implies, true_implies, not_false_eq_true, not_true_eq_false, kzl, a]
        exact hQ _ _ hK
      · have hz := (kcz1 (c := t 0 4) (by omega) (x := v1)).mpr d
        refine ⟨fun h => absurd (kzl.mp h) a, fun _ => ⟨fun _ => hQ _ _ hK, fun h => absurd hz h⟩⟩
      · have g1 : (t 0 4 ≤ j) = False := eq_false (by omega)
        have e1 := hB.2.2 j hj
        simp (disch := omega) only [pk_mul, nI_add, ksub, kdv, kd8, kd64, kd2, kd3, km8, km64, kt8, ke8, ke64, kcl, kin, kle, klt, keq, up_s, up_n, up_u, true_and, and_true, false_implies, true_implies, not_false_eq_true, not_true_eq_false, kzl, kcz1, kcz3, knl, g1, e1]
        exact hQ _ _ hK
    rcases crs v1 (t 0 4) (by omega) with a | ⟨a, d⟩ | ⟨j, hj, rfl⟩
    · refine b_X10_first_0 ?_
      simp (disch := omega) only [pk_mul, nI_add, ksub, kdv, kd8, kd64, kd2, kd3, km8, km64, kt8, ke8, ke64, kcl, kin, kle, klt, keq, up_s, up_n, up_u, true_and, and_true, false_implies, true_implies, not_false_eq_true, not_true_eq_false, c0, q0, a]
      exact fin _ I hR (Or.inl ⟨a, rfl⟩)
    · refine b_X10_first_0 ?_
      have nl : ¬ v1 < nI (t 0 4) := fun h => by
        rw [Int32.lt_iff_toInt_lt] at h
        rw [Int32.le_iff_toInt_le] at d
        omega
      simp (disch := omega) only [pk_mul, nI_add, ksub, kdv, kd8, kd64, kd2, kd3, km8, km64, kt8, ke8, ke64, kcl, kin, kle, klt, keq, up_s, up_n, up_u, true_and, and_true, false_implies, true_implies, not_false_eq_true, not_true_eq_false, c0, c7, q0, a, nl]
      exact fin _ I hR (Or.inr (Or.inl ⟨a, d, rfl⟩))
    · have g1 : (j < t 0 4) = True := eq_true hj
      refine b_X10_first_0 ?_
      simp (disch := omega) only [pk_mul, nI_add, ksub, kdv, kd8, kd64, kd2, kd3, km8, km64, kt8, ke8, ke64, kcl, kin, kle, klt, keq, up_s, up_n, up_u, true_and, and_true, false_implies, true_implies, not_false_eq_true, not_true_eq_false, c0, c7, q0, knl, g1]
      refine ⟨fun he => ?_, fun _ => ?_⟩
      · rw [(hoc he).2.2 j hj]
        exact fin _ I hR (Or.inr (Or.inr ⟨j, hj, rfl, rfl⟩))
      · have hb := c_best hR (Q := fun I2 => C_X11_first_73 e (nI j) (va_up I2 0 (va_up (I2 0) 13 (I2 0 12))) L fun r' K => Q (I2 61 j) r' K) (fun J hJ hB => by
          rw [hB.2.2 j hj]
          exact fin _ _ hJ (Or.inr (Or.inr ⟨j, hj, rfl, rfl⟩)))
        rw [up_u] at hb
        exact hb
