/-! orders tried: from any beginning (by gen_60.py) -/
theorem kle1 {c : Nat} (h : c < 2147483648) : (nI c ≤ (-1 : Int32)) = False := by
  refine eq_false (fun h2 => ?_)
  rw [Int32.le_iff_toInt_le, nI_toInt (by omega)] at h2
  have : (-1 : Int32).toInt = -1 := by decide
  omega
theorem BC_lf {t : tw} {l : List Nat} {b : Option (Nat × Nat × List Nat)} {I : Nat → Nat → Int32} {L : Nat → Nat → Int64} {Q : (Nat → Nat → Int32) → Prop} (hk : tok t) (ho : oOK t l) (hl : l.length = t 0 4) (h60 : ∀ i, i < l.length → I 60 i = nI (l.getD i 0)) (hB : BC t b I) (hQ : ∀ J, BC t (lfd t l b) J → (∀ a, a ≠ 51 → a ≠ 61 → J a = I a) → Q J) : ((nI (dyL t (-1) l).2.1 ≤ (I 51 4) → ((nI (dyL t (-1) l).2.1 = (I 51 4) → Q (va_up I 51 (va_up (I 51) 5 (if nI (dyL t (-1) l).2.2.1 < (I 51 5) then nI (dyL t (-1) l).2.2.1 else (I 51 5))))) ∧ (¬ nI (dyL t (-1) l).2.1 = (I 51 4) → Q I))) ∧ (¬ nI (dyL t (-1) l).2.1 ≤ (I 51 4) → Q (va_up (va_up (va_up I 51 (va_up (I 51) 4 (nI (dyL t (-1) l).2.1))) 51 (va_up (va_up (I 51) 4 (nI (dyL t (-1) l).2.1)) 5 (nI (dyL t (-1) l).2.2.1))) 61 (va_cpy (I 60) (I 61) 0 0 6)))) := by
  have hn := dyL_n hk (-1) l ho.1
  obtain ⟨o0, oT, oZ, oY, oD, o9, oN, o28, oB, oX, oE, oF, oA, oH, oU, oV⟩ := hk
  unfold lfd at hQ
  generalize dyL t (-1) l = s at *
  have setn : ∀ J, J = va_up (va_up (va_up I 51 (va_up (I 51) 4 (nI s.2.1))) 51 (va_up (va_up (I 51) 4 (nI s.2.1)) 5 (nI s.2.2.1))) 61 (va_cpy (I 60) (I 61) 0 0 6) → BC t (some (s.2.1, s.2.2.1, l)) J ∧ ∀ a, a ≠ 51 → a ≠ 61 → J a = I a := by
    rintro J rfl
    refine ⟨⟨by show s.2.1 ≤ 6; omega, by show s.2.2.1 ≤ 100000; omega, ?_, ?_, fun i hi => ?_⟩, fun a h1 h2 => ?_⟩
    · simp (disch := omega) only [pk_mul, nI_add, ksub, kdv, kd8, kd64, kd2, kd3, km8, km64, kt8, ke8, ke64, kcl, kin, kle, klt, keq, up_s, up_n, up_u, true_and, and_true, false_implies, true_implies, not_false_eq_true, not_true_eq_false]
    · simp (disch := omega) only [pk_mul, nI_add, ksub, kdv, kd8, kd64, kd2, kd3, km8, km64, kt8, ke8, ke64, kcl, kin, kle, klt, keq, up_s, up_n, up_u, true_and, and_true, false_implies, true_implies, not_false_eq_true, not_true_eq_false]
    · show va_cpy (I 60) (I 61) 0 0 6 i = _
      rw [cpy0 (by omega)]
      exact h60 i (by omega)
    · simp (disch := omega) only [pk_mul, nI_add, ksub, kdv, kd8, kd64, kd2, kd3, km8, km64, kt8, ke8, ke64, kcl, kin, kle, klt, keq, up_s, up_n, up_u, true_and, and_true, false_implies, true_implies, not_false_eq_true, not_true_eq_false]
  cases b with
  | none =>
    obtain ⟨g1, g2⟩ := hB
    rw [g1, kle1 (by omega)]
    refine ⟨fun h => h.elim, fun _ => ?_⟩
    obtain ⟨x1, x2⟩ := setn _ rfl
    exact hQ _ x1 x2
  | some b =>
    obtain ⟨g1, g2, g3, g4, g5⟩ := hB
    dsimp only at hQ
    by_cases h1 : b.1 < s.2.1
    · rw [if_pos h1] at hQ
      rw [g3]
      have q1 : (s.2.1 ≤ b.1) = False := eq_false (by omega)
      rw [kle (by omega) (by omega), q1]
      refine ⟨fun h => h.elim, fun _ => ?_⟩
      obtain ⟨x1, x2⟩ := setn _ rfl
      exact hQ _ x1 x2
    · rw [if_neg h1] at hQ
      have q1 : (s.2.1 ≤ b.1) = True := eq_true (by omega)
      rw [g3, kle (by omega) (by omega), q1]
      refine ⟨fun _ => ⟨fun h2 => ?_, fun h2 => ?_⟩, fun h => absurd trivial h⟩
      · rw [nI_eq (by omega) (by omega)] at h2
        rw [if_pos h2] at hQ
        refine hQ _ ⟨g1, ?_, ?_, ?_, ?_⟩ (fun a h1 h2 => ?_)
        · show (if s.2.2.1 < b.2.1 then s.2.2.1 else b.2.1) ≤ 100000
          split <;> omega
        · simp (disch := omega) only [pk_mul, nI_add, ksub, kdv, kd8, kd64, kd2, kd3, km8, km64, kt8, ke8, ke64, kcl, kin, kle, klt, keq, up_s, up_n, up_u, true_and, and_true, false_implies, true_implies, not_false_eq_true, not_true_eq_false, g3]
        · simp (disch := omega) only [pk_mul, nI_add, ksub, kdv, kd8, kd64, kd2, kd3, km8, km64, kt8, ke8, ke64, kcl, kin, kle, klt, keq, up_s, up_n, up_u, true_and, and_true, false_implies, true_implies, not_false_eq_true, not_true_eq_false]
          rw [g4]
          by_cases h3 : s.2.2.1 < b.2.1
          · rw [if_pos h3, if_pos ((nI_ltI (by omega) (by omega)).mpr h3)]
          · rw [if_neg h3, if_neg (fun h => h3 ((nI_ltI (by omega) (by omega)).mp h))]
        · intro i hi
          simp (disch := omega) only [pk_mul, nI_add, ksub, kdv, kd8, kd64, kd2, kd3, km8, km64, kt8, ke8, ke64, kcl, kin, kle, klt, keq, up_s, up_n, up_u, true_and, and_true, false_implies, true_implies, not_false_eq_true, not_true_eq_false]
          exact g5 i hi
        · simp (disch := omega) only [pk_mul, nI_add, ksub, kdv, kd8, kd64, kd2, kd3, km8, km64, kt8, ke8, ke64, kcl, kin, kle, klt, keq, up_s, up_n, up_u, true_and, and_true, false_implies, true_implies, not_false_eq_true, not_true_eq_false]
      · have h3 : ¬ s.2.1 = b.1 := fun h => h2 (by rw [h])
        rw [if_neg h3] at hQ
        exact hQ I ⟨g1, g2, g3, g4, g5⟩ (fun _ _ _ => rfl)
theorem c_tryFrom {e : am_V} {L : Nat → Nat → Int64} {t : tw} (hk : tok t) : ∀ (k : Nat) (l : List Nat), l.length + k = t 0 4 → oOK t l → trF e L t k l := by
  intro k
  induction k with
  | zero =>
    intro l hl ho b d I Q hI hd hQ
    obtain ⟨i1, i2, i3, i4⟩ := hI
    obtain ⟨d, rfl⟩ : ∃ d', d = d' + 1 := ⟨d - 1, by omega⟩
    have hk2 := hk
    obtain ⟨o0, oT, oZ, oY, oD, o9, oN, o28, oB, oX, oE, oF, oA, oH, oU, oV⟩ := hk
    have c7 := i1.2.2.2.2.2.2.2.1
    have q1 : (t 0 4 ≤ l.length) = True := eq_true (by omega)
    refine b_X3_tryFrom_51_3_38 (c_bitCount ?_)
    rw [ho.2, c7, kle (by omega) (by omega), q1]
    refine ⟨fun _ => ?_, fun h => absurd trivial h⟩
    refine BC_lf (L := L) hk2 ho (by omega) i3 i4 (fun J j1 j2 => ?_)
    have fJ : fr SO [] I J := ⟨fun a ha _ => j2 a (fun h => ha (by rw [h]; decide)) (fun h => ha (by rw [h]; decide)), fun k _ => by rw [j2 73 (by decide) (by decide)]⟩
    refine hQ J ⟨fr_CT fJ i1 rfl, fun k h1 h2 => ?_, fun i hi => ?_, j1⟩ fJ (fun i hi => ?_)
    · rw [j2 52 (by decide) (by decide)]; exact i2 k h1 h2
    · rw [j2 60 (by decide) (by decide)]; exact i3 i hi
    · exact j2 _ (by omega) (by omega)
  | succ k ih =>
    intro l hl ho b d I Q hI hd hQ
    obtain ⟨d, rfl⟩ : ∃ d', d = d' + 1 + 1 := ⟨d - 2, by omega⟩
    have hk2 := hk
    obtain ⟨o0, oT, oZ, oY, oD, o9, oN, o28, oB, oX, oE, oF, oA, oH, oU, oV⟩ := hk
    have c7 := hI.1.2.2.2.2.2.2.2.1
    have q1 : (t 0 4 ≤ l.length) = False := eq_false (by omega)
    have q2 : (l.length < 6) = True := eq_true (by omega)
    refine b_X3_tryFrom_51_3_38 (c_bitCount ?_)
    rw [ho.2, c7, kle (by omega) (by omega), q1, klt (by omega) (by omega), q2]
    refine ⟨fun h => h.elim, fun _ => ⟨fun _ => ?_, fun h => absurd trivial h⟩⟩
    show T_X3_tryFrom_51_3_38_p34 e (d + 1 + 1) (nI (msk l)) (nI (dyL t (-1) l).2.1) (nI (dyL t (-1) l).2.2.1) (nI l.length) (nI 0) I L Q
    refine lp_up (n := t 0 4) (S := Nat → Nat → Int32) (T := fun j J => T_X3_tryFrom_51_3_38_p34 e (d + 1 + 1) (nI (msk l)) (nI (dyL t (-1) l).2.1) (nI (dyL t (-1) l).2.2.1) (nI l.length) (nI j) J L Q) (fun j J => OI t l (acc (fun j b => if l.contains j = true then b else dsr t k (l ++ [j]) b) b j) J ∧ fr SO [] I J ∧ ∀ i, i < l.length → J (54 + i) = I (54 + i)) ?_ ?_ 0 I (Nat.zero_le _) ⟨hI, fr_refl _ _ _, fun _ _ => rfl⟩
    · rintro j J hj ⟨⟨i1, i2, i3, i4⟩, fJ, i6⟩ hnext
      have c7 := i1.2.2.2.2.2.2.2.1
      have q3 : (t 0 4 ≤ j) = False := eq_false (by omega)
      have hbt := kb0 (msk l) (bts_b _ 8) j (by omega)
      have htb : Nat.testBit (msk l) j = l.contains j := by
        unfold msk
        rw [bts_t, decide_eq_true (by omega : j < 8), Bool.true_and]
      rw [htb] at hbt
      refine b_X3_tryFrom_51_3_38_p34 ?_
      cases hc : l.contains j with
      | true =>
        have q4 : ((nI (msk l) >>> (nI j &&& 31)) &&& nI 1 = nI 0) = False := eq_false (fun h => by rw [hbt.mp h] at hc; cases hc)
        simp (disch := omega) only [pk_mul, nI_add, ksub, kdv, kd8, kd64, kd2, kd3, km8, km64, kt8, ke8, ke64, kcl, kin, kle, klt, keq, up_s, up_n, up_u, true_and, and_true, false_implies, true_implies, not_false_eq_true, not_true_eq_false, c7, q3, q4]
        refine hnext J ⟨?_, fJ, i6⟩
        rw [acc_s, if_pos hc]
        exact ⟨i1, i2, i3, i4⟩
      | false =>
        have q4 : ((nI (msk l) >>> (nI j &&& 31)) &&& nI 1 = nI 0) = True := eq_true (hbt.mpr hc)
        have sh := ksh j (by omega)
        have mk := msk_a (l := l) (j := j) (by omega)
        simp (disch := omega) only [pk_mul, nI_add, ksub, kdv, kd8, kd64, kd2, kd3, km8, km64, kt8, ke8, ke64, kcl, kin, kle, klt, keq, up_s, up_n, up_u, true_and, and_true, false_implies, true_implies, not_false_eq_true, not_true_eq_false, c7, q3, q4, sh, fa_or, mk]
        have ho2 := oOK_a ho hj oE hc
        have hla : (l ++ [j]).length = l.length + 1 := by rw [List.length_append]; rfl
        have ihj := ih (l ++ [j]) (by omega) ho2
        have fU : fr SO [] J (va_up J 60 (va_up (J 60) l.length (nI j))) := fr_up (fr_refl _ _ _) rfl
        have hC1 : CT t (va_up J 60 (va_up (J 60) l.length (nI j))) := fr_CT fU i1 rfl
        have cFj : J 11 j = nI (t 4 j) := i1.2.2.2.2.2.2.2.2.2.2.2.2.2.2.2.2.1 j hj
        have cOj : J 12 j = nI (t 5 j) := i1.2.2.2.2.2.2.2.2.2.2.2.2.2.2.2.2.2.1 j hj
        have h60 : ∀ i, i < (l ++ [j]).length → (va_up J 60 (va_up (J 60) l.length (nI j))) 60 i = nI ((l ++ [j]).getD i 0) := by
          intro i hi
          simp (disch := omega) only [pk_mul, nI_add, ksub, kdv, kd8, kd64, kd2, kd3, km8, km64, kt8, ke8, ke64, kcl, kin, kle, klt, keq, up_s, up_n, up_u, true_and, and_true, false_implies, true_implies, not_false_eq_true, not_true_eq_false]
          by_cases he : i = l.length
          · rw [he, up_s, gd_r (Nat.le_refl _), Nat.sub_self]
            rfl
          · rw [up_n he, gd_l (by omega)]
            exact i3 i (by omega)
        have fin : ∀ J2, OI t l (dsr t k (l ++ [j]) (acc (fun j b => if l.contains j = true then b else dsr t k (l ++ [j]) b) b j)) J2 → fr SO [] (va_up J 60 (va_up (J 60) l.length (nI j))) J2 → (∀ i, i < l.length → J2 (54 + i) = (va_up J 60 (va_up (J 60) l.length (nI j))) (54 + i)) → T_X3_tryFrom_51_3_38_p34 e (d + 1 + 1) (nI (msk l)) (nI (dyL t (-1) l).2.1) (nI (dyL t (-1) l).2.2.1) (nI l.length) (nI (j + 1)) J2 L Q := by
          intro J2 j1 j2 j3
          refine hnext J2 ⟨?_, fr_trans fJ (fr_trans fU j2), fun i hi => ?_⟩
          · rw [acc_s, if_neg (by rw [hc]; decide)]
            exact j1
          · rw [j3 i hi, up_n (by omega)]
            exact i6 i hi
        refine b2_X3_tryErrand_51_3_38 (c_bitCount ?_)
        rw [ho2.2, hla]
        refine ⟨?_, ?_, ?_, ?_, ?_, ?_, ?_⟩
        · intro hr
          rw [nI_eq (by omega) (by omega)] at hr
          have e60 : va_up (J 60) l.length (nI j) 0 = nI j := by
            rw [show l.length = 0 from by omega]
            exact up_s
          show vp_in (va_up (J 60) l.length (nI j) 0) 6 ∧ vp_in (va_up (J 60) l.length (nI j) 0) 6 ∧ C_X9_find_38_3_52 e (J 11 (va_up (J 60) l.length (nI j) 0).toNatClampNeg) (J 12 (va_up (J 60) l.length (nI j) 0).toNatClampNeg) (nI 0) (va_up J 60 (va_up (J 60) l.length (nI j))) L _
          rw [e60]
          simp (disch := omega) only [kcl, kin, cFj, cOj, true_and]
          exact te_54 hk2 hj (by omega) hC1 i2 h60 i4 (show 2 * k + 1 ≤ d by omega) ihj fin
        · intro hr
          rw [nI_eq (by omega) (by omega)] at hr
          have e60 : va_up (J 60) l.length (nI j) 1 = nI j := by
            rw [show l.length = 1 from by omega]
            exact up_s
          show vp_in (va_up (J 60) l.length (nI j) 1) 6 ∧ vp_in (va_up (J 60) l.length (nI j) 1) 6 ∧ C_X9_find_38_3_52 e (J 11 (va_up (J 60) l.length (nI j) 1).toNatClampNeg) (J 12 (va_up (J 60) l.length (nI j) 1).toNatClampNeg) (nI 0) (va_up J 60 (va_up (J 60) l.length (nI j))) L _
          rw [e60]
          simp (disch := omega) only [kcl, kin, cFj, cOj, true_and]
          exact te_55 hk2 hj (by omega) hC1 i2 h60 i4 (show 2 * k + 1 ≤ d by omega) ihj fin
        · intro hr
          rw [nI_eq (by omega) (by omega)] at hr
          have e60 : va_up (J 60) l.length (nI j) 2 = nI j := by
            rw [show l.length = 2 from by omega]
            exact up_s
          show vp_in (va_up (J 60) l.length (nI j) 2) 6 ∧ vp_in (va_up (J 60) l.length (nI j) 2) 6 ∧ C_X9_find_38_3_52 e (J 11 (va_up (J 60) l.length (nI j) 2).toNatClampNeg) (J 12 (va_up (J 60) l.length (nI j) 2).toNatClampNeg) (nI 0) (va_up J 60 (va_up (J 60) l.length (nI j))) L _
          rw [e60]
          simp (disch := omega) only [kcl, kin, cFj, cOj, true_and]
          exact te_56 hk2 hj (by omega) hC1 i2 h60 i4 (show 2 * k + 1 ≤ d by omega) ihj fin
        · intro hr
          rw [nI_eq (by omega) (by omega)] at hr
          have e60 : va_up (J 60) l.length (nI j) 3 = nI j := by
            rw [show l.length = 3 from by omega]
            exact up_s
          show vp_in (va_up (J 60) l.length (nI j) 3) 6 ∧ vp_in (va_up (J 60) l.length (nI j) 3) 6 ∧ C_X9_find_38_3_52 e (J 11 (va_up (J 60) l.length (nI j) 3).toNatClampNeg) (J 12 (va_up (J 60) l.length (nI j) 3).toNatClampNeg) (nI 0) (va_up J 60 (va_up (J 60) l.length (nI j))) L _
          rw [e60]
          simp (disch := omega) only [kcl, kin, cFj, cOj, true_and]
          exact te_57 hk2 hj (by omega) hC1 i2 h60 i4 (show 2 * k + 1 ≤ d by omega) ihj fin
        · intro hr
          rw [nI_eq (by omega) (by omega)] at hr
          have e60 : va_up (J 60) l.length (nI j) 4 = nI j := by
            rw [show l.length = 4 from by omega]
            exact up_s
          show vp_in (va_up (J 60) l.length (nI j) 4) 6 ∧ vp_in (va_up (J 60) l.length (nI j) 4) 6 ∧ C_X9_find_38_3_52 e (J 11 (va_up (J 60) l.length (nI j) 4).toNatClampNeg) (J 12 (va_up (J 60) l.length (nI j) 4).toNatClampNeg) (nI 0) (va_up J 60 (va_up (J 60) l.length (nI j))) L _
          rw [e60]
          simp (disch := omega) only [kcl, kin, cFj, cOj, true_and]
          exact te_58 hk2 hj (by omega) hC1 i2 h60 i4 (show 2 * k + 1 ≤ d by omega) ihj fin
        · intro hr
          rw [nI_eq (by omega) (by omega)] at hr
          have e60 : va_up (J 60) l.length (nI j) 5 = nI j := by
            rw [show l.length = 5 from by omega]
            exact up_s
          show vp_in (va_up (J 60) l.length (nI j) 5) 6 ∧ vp_in (va_up (J 60) l.length (nI j) 5) 6 ∧ C_X9_find_38_3_52 e (J 11 (va_up (J 60) l.length (nI j) 5).toNatClampNeg) (J 12 (va_up (J 60) l.length (nI j) 5).toNatClampNeg) (nI 0) (va_up J 60 (va_up (J 60) l.length (nI j))) L _
          rw [e60]
          simp (disch := omega) only [kcl, kin, cFj, cOj, true_and]
          exact te_59 hk2 hj (by omega) hC1 i2 h60 i4 (show 2 * k + 1 ≤ d by omega) ihj fin
        · have : l.length = 0 ∨ l.length = 1 ∨ l.length = 2 ∨ l.length = 3 ∨ l.length = 4 ∨ l.length = 5 := by omega
          rcases this with h | h | h | h | h | h <;> rw [h] <;> decide
    · rintro J ⟨i1, fJ, i6⟩
      have c7 := i1.1.2.2.2.2.2.2.2.1
      have q3 : (t 0 4 ≤ t 0 4) = True := eq_true (Nat.le_refl _)
      refine b_X3_tryFrom_51_3_38_p34 ?_
      simp (disch := omega) only [pk_mul, nI_add, ksub, kdv, kd8, kd64, kd2, kd3, km8, km64, kt8, ke8, ke64, kcl, kin, kle, klt, keq, up_s, up_n, up_u, true_and, and_true, false_implies, true_implies, not_false_eq_true, not_true_eq_false, c7, q3]
      exact hQ J i1 fJ i6
