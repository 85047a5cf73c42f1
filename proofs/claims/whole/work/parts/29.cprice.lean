/-! the class prices its arcs (rows of uses: 10 as left, 2 work, 49 the day's, 52 the orders') -/
theorem cn_z {p : Nat → Bool} {n : Nat} (h : ∀ k, k < n → p k = false) : cn p n = 0 := by
  induction n with
  | zero => rfl
  | succ n ih =>
    show cn p n + (if p n = true then 1 else 0) = 0
    rw [ih (fun k hk => h k (by omega)), h n (by omega)]
    rfl
theorem rk_g {st D : Nat → Nat} {a : Nat} (h : D a = 0) : cn (rkp st D (D a)) 64 = 0 := by
  refine cn_z (fun k _ => ?_)
  unfold rkp
  rw [h, decide_eq_false (Nat.not_lt_zero _), Bool.and_false]
def prI (st D : Nat → Nat) (r : Nat) (F : Nat → Int32) (C : Nat → Nat) : Prop := (∀ a, a < 64 → 0 < st a → F a = nI (C a)) ∧ (∀ a, a < 64 → 0 < st a → cC st D a ≤ C a ∧ C a ≤ 1000000000) ∧ (∀ a, a < 64 → 0 < st a → D a < 100000000 → cn (rkp st D (D a)) 64 ≤ r → C a = cC st D a)
def prS (st tc C : Nat → Nat) (k : Nat) : Prop := ∀ k', k' < k → 0 < st (k' / 8) → 0 < st (k' % 64) → tc k' ≤ 1000000 → C (k' / 8) ≤ 1000 * st (k' / 8) + 1 + (tc k' + C (k' % 64))
def prT (st tc D C : Nat → Nat) (r k : Nat) : Prop := ∀ k', k' < k → 0 < st (k' / 8) → 0 < st (k' % 64) → tc k' ≤ 1000000 → D (k' % 64) < 100000000 → cn (rkp st D (D (k' % 64))) 64 ≤ r → C (k' / 8) ≤ 1000 * st (k' / 8) + 1 + (tc k' + cC st D (k' % 64))
theorem prI_s {st tc D : Nat → Nat} {g r : Nat} {F : Nat → Int32} {C : Nat → Nat} (hD : isD st tc g D) (hk : stok st tc) (h : prI st D r F C) (hT : prT st tc D C r 512) : prI st D (r + 1) F C := by
  obtain ⟨h1, h2, h3⟩ := h
  refine ⟨h1, h2, fun a ha hs hf hr => ?_⟩
  by_cases hrr : cn (rkp st D (D a)) 64 ≤ r
  · exact h3 a ha hs hf hrr
  · by_cases hg : a % 8 = g
    · have := rk_g (st := st) ((hD a ha hs).2.1 hg)
      omega
    · obtain ⟨z, hz, hb, htc, hl, he⟩ := cC_a hD hk ha hs hf hg
      have h4 := rk_lt (st := st) (D := D) (show 8 * (a % 8) + z < 64 from by omega) hb hl
      have h5 := hT (8 * a + z) (by omega)
      rw [show (8 * a + z) / 8 = a from by omega, show (8 * a + z) % 64 = 8 * (a % 8) + z from by omega] at h5
      have h6 := h5 hs hb htc (by omega) (by omega)
      have h7 := (h2 a ha hs).1
      omega
theorem prI_e {st tc D : Nat → Nat} {g r : Nat} {F : Nat → Int32} {C : Nat → Nat} (hD : isD st tc g D) (hk : stok st tc) (h : prI st D r F C) (hS : prS st tc C 512) : ∀ a, a < 64 → 0 < st a → F a = nI (cC st D a) := by
  obtain ⟨h1, h2, h3⟩ := h
  have h4 := cC_s hD hk (C := C) h2 (fun a ha hs hg => ?_) (fun a z ha hs hz hb htc => ?_)
  · intro a ha hs
    rw [h1 a ha hs, h4 a ha hs]
  · have h0 := (hD a ha hs).2.1 hg
    have := rk_g (st := st) h0
    exact h3 a ha hs (by omega) (by omega)
  · have h5 := hS (8 * a + z) (by omega)
    rw [show (8 * a + z) / 8 = a from by omega, show (8 * a + z) % 64 = 8 * (a % 8) + z from by omega] at h5
    exact h5 hs hb htc
theorem prI_65 {st D : Nat → Nat} {r : Nat} {F : Nat → Int32} {C : Nat → Nat} (h28 : cn (fun c => decide (0 < st c)) 64 ≤ 28) (h : prI st D r F C) (hr : 27 ≤ r) : ∀ a, a < 64 → 0 < st a → F a = nI (cC st D a) := by
  obtain ⟨h1, h2, h3⟩ := h
  intro a ha hs
  rw [h1 a ha hs]
  by_cases hf : D a < 100000000
  · have := rk_27 (D := D) h28 ha hs
    rw [h3 a ha hs hf (by omega)]
  · have h5 := h2 a ha hs
    have h6 : cC st D a = 1000000000 := by unfold cC; rw [if_neg hf]
    rw [show C a = cC st D a from by omega]
theorem prI_u {st tc D : Nat → Nat} {g r k w : Nat} {F : Nat → Int32} {C : Nat → Nat} (hD : isD st tc g D) (hk : stok st tc) (h : prI st D r F C) (hT : prT st tc D C r k) (hk5 : k < 512) (ha : 0 < st (k / 8)) (hb : 0 < st (k % 64)) (htc : tc k ≤ 1000000) (hw : w = tc k + C (k % 64)) (hl : ¬ C (k / 8) ≤ 1000 * st (k / 8) + 1 + w) : prI st D r (va_up F (k / 8) (nI (1000 * st (k / 8) + 1 + w))) (va_up C (k / 8) (1000 * st (k / 8) + 1 + w)) ∧ prT st tc D (va_up C (k / 8) (1000 * st (k / 8) + 1 + w)) r (k + 1) := by
  obtain ⟨h1, h2, h3⟩ := h
  have hlo : cC st D (k / 8) ≤ 1000 * st (k / 8) + 1 + w := by
    have h5 := (cC_t hD hk (a := k / 8) (z := k % 8) (by omega) ha (by omega) (by rw [show 8 * (k / 8 % 8) + k % 8 = k % 64 from by omega]; exact hb) (by rw [show 8 * (k / 8) + k % 8 = k from by omega]; exact htc)).1
    rw [show 8 * (k / 8 % 8) + k % 8 = k % 64 from by omega, show 8 * (k / 8) + k % 8 = k from by omega] at h5
    have h6 := (h2 (k % 64) (by omega) hb).1
    omega
  have hle : ∀ c, va_up C (k / 8) (1000 * st (k / 8) + 1 + w) c ≤ C c := by
    intro c
    by_cases hc : c = k / 8
    · rw [hc, up_s]; omega
    · rw [up_n hc]; exact Nat.le_refl _
  refine ⟨⟨fun a ha2 hs2 => ?_, fun a ha2 hs2 => ?_, fun a ha2 hs2 hf hr => ?_⟩, fun k' hk' q1 q2 q3 q4 q5 => ?_⟩
  · by_cases hc : a = k / 8
    · rw [hc, up_s, up_s]
    · rw [up_n hc, up_n hc]; exact h1 a ha2 hs2
  · by_cases hc : a = k / 8
    · have := h2 a ha2 hs2
      rw [hc] at this
      rw [hc, up_s]
      exact ⟨hlo, by omega⟩
    · rw [up_n hc]; exact h2 a ha2 hs2
  · by_cases hc : a = k / 8
    · have h5 := h3 a ha2 hs2 hf hr
      rw [hc] at h5
      omega
    · rw [up_n hc]; exact h3 a ha2 hs2 hf hr
  · by_cases he : k' = k
    · rw [he] at q4 q5 ⊢
      rw [up_s, hw, h3 (k % 64) (by omega) hb q4 q5]
      exact Nat.le_refl _
    · have h5 := hT k' (by omega) q1 q2 q3 q4 q5
      have h6 := hle (k' / 8)
      omega
theorem prT_k {st tc D : Nat → Nat} {r k w : Nat} {F : Nat → Int32} {C : Nat → Nat} (h : prI st D r F C) (hT : prT st tc D C r k) (hw : (w = tc k + C (k % 64) ∧ tc k ≤ 1000000) ∨ ¬ tc k ≤ 1000000) (hl : C (k / 8) ≤ 1000 * st (k / 8) + 1 + w) : prT st tc D C r (k + 1) := by
  intro k' hk' q1 q2 q3 q4 q5
  by_cases he : k' = k
  · rw [he] at q1 q2 q3 q4 q5 ⊢
    rcases hw with ⟨hw, _⟩ | hw
    · have h5 := h.2.2 (k % 64) (by omega) q2 q4 q5
      omega
    · exact absurd q3 hw
  · exact hT k' (by omega) q1 q2 q3 q4 q5
theorem prS_k {st tc : Nat → Nat} {k w : Nat} {C : Nat → Nat} (hS : prS st tc C k) (hw : (w = tc k + C (k % 64) ∧ tc k ≤ 1000000) ∨ ¬ tc k ≤ 1000000) (hl : C (k / 8) ≤ 1000 * st (k / 8) + 1 + w) : prS st tc C (k + 1) := by
  intro k' hk' q1 q2 q3
  by_cases he : k' = k
  · rw [he] at q1 q2 q3 ⊢
    rcases hw with ⟨hw, _⟩ | hw
    · omega
    · exact absurd q3 hw
  · exact hS k' (by omega) q1 q2 q3
theorem tok_st {t : tw} (hk : tok t) (nw : Nat → Nat) (m : Nat) : stok (t 1) (tcm nw m) := by
  obtain ⟨o0, oT, oZ, oY, oD, o9, oN, o28, oB, oX, oE, oF, oA, oH, oU, oV⟩ := hk
  refine ⟨o9, ?_, tcm_ok nw m⟩
  have := o28
  rw [cn_fl] at this
  exact this
theorem c_price_10 {e : am_V} {I : Nat → Nat → Int32} {L : Nat → Nat → Int64} {Q : (Nat → Nat → Int32) → Prop} {t : tw} {nw : Nat → Nat} {m g : Nat} (hC : CT t I) (hk : tok t) (hr : ∀ k, k < 512 → tB t k = true → I 10 k = nI (nw k)) (hw : ∀ k, k < 512 → nw k ≤ 1000) (hm : m ≤ 2) (hg : g < 8) (hQ : ∀ F', (∀ a, a < 64 → 0 < t 1 a → F' a = nI (cC (t 1) (wD (t 1) (tcm nw m) g) a)) → Q (va_up I 39 F')) : C_X9_priceArcs_38_3_10 e (nI g) (nI m) I L Q := by
  have hS := tok_st hk nw m
  obtain ⟨c0, c1, c2, c3, c4, c5, c6, c7, c8, cS, cD, cN, cA, cT, cM, cR, cF, cO, cH, cL⟩ := hC
  obtain ⟨o0, oT, oZ, oY, oD, o9, oN, o28, oB, oX, oE, oF, oA, oH, oU, oV⟩ := hk
  have hD := wD_is (t 1) (tcm nw m) g
  generalize wD (t 1) (tcm nw m) g = D at hQ hD
  have hla : (ar t).length ≤ 64 := by rw [cn_fl]; exact cn_n _ _
  have hlt : (tu t).length ≤ 512 := by rw [cn_fl]; exact cn_n _ _
  have h61 : ∀ F C, prI (t 1) D 0 F C → T_X9_priceArcs_38_3_10_p61 e (nI m) (nI 1) (nI 0) (va_up I 39 F) L Q := by
    intro F C h0
    refine lp_up (n := 65) (S := Nat × (Nat → Int32) × (Nat → Nat)) (T := fun r s => T_X9_priceArcs_38_3_10_p61 e (nI m) (nI s.1) (nI r) (va_up I 39 s.2.1) L Q) (fun r s => prI (t 1) D r s.2.1 s.2.2 ∧ (s.1 = 0 → prS (t 1) (tcm nw m) s.2.2 512) ∧ s.1 ≤ 1) ?_ ?_ 0 (1, F, C) (Nat.zero_le _) ⟨h0, fun h => absurd h Nat.one_ne_zero, Nat.le_refl _⟩
    · rintro r ⟨ch, F, C⟩ hr65 ⟨i1, i2, i3⟩ hnext
      refine b_X9_priceArcs_38_3_10_p61 ?_
      have q1 : (64 < r) = False := eq_false (by omega)
      change ch ≤ 1 at i3
      simp (disch := omega) only [pk_mul, nI_add, ksub, kdv, kd8, kd64, kd2, kd3, km8, km64, kt8, ke8, ke64, kcl, kin, kle, klt, keq, up_s, up_n, up_u, true_and, and_true, false_implies, true_implies, not_false_eq_true, not_true_eq_false, q1]
      refine ⟨fun hch => hQ F (prI_e hD hS i1 (i2 hch)), fun _ => ?_⟩
      refine lp_fl (l := tu t) rfl (N := 512) (p := tB t) (S := Nat × (Nat → Int32) × (Nat → Nat)) (T := fun i s => T_X9_priceArcs_38_3_10_p79 e (nI m) (nI s.1) (nI r) (nI i) (va_up I 39 s.2.1) L Q) (fun k s => prI (t 1) D r s.2.1 s.2.2 ∧ prT (t 1) (tcm nw m) D s.2.2 r k ∧ (s.1 = 0 → prS (t 1) (tcm nw m) s.2.2 k) ∧ s.1 ≤ 1) ?_ ?_ ?_ (0, F, C) ⟨i1, fun k' h => absurd h (Nat.not_lt_zero _), fun _ k' h => absurd h (Nat.not_lt_zero _), Nat.zero_le _⟩
      · rintro k ⟨ch, F, C⟩ hk5 hp ⟨j1, j2, j3, j4⟩
        have hno : ¬ (0 < t 1 (k / 8) ∧ 0 < t 1 (k % 64)) := fun h => by rw [tB_i.mpr h] at hp; cases hp
        refine ⟨j1, fun k' hk' q1 q2 => ?_, fun hc k' hk' q1 q2 => ?_, j4⟩
        · by_cases he : k' = k
          · rw [he] at q1 q2; exact absurd ⟨q1, q2⟩ hno
          · exact j2 k' (by omega) q1 q2
        · by_cases he : k' = k
          · rw [he] at q1 q2; exact absurd ⟨q1, q2⟩ hno
          · exact j3 hc k' (by omega) q1 q2
      · rintro k i ⟨ch, F, C⟩ hk5 hp hi hik ⟨j1, j2, j3, j4⟩ hnext2
        obtain ⟨ha, hb⟩ := tB_i.mp hp
        have q2 : ((tu t).length ≤ i) = False := eq_false (by omega)
        have e8 : I 8 i = nI k := by rw [cT i hi, hik]
        have e39a := j1.1 (k / 8) (by omega) ha
        have e39b := j1.1 (k % 64) (by omega) hb
        change F (k / 8) = nI (C (k / 8)) at e39a
        change F (k % 64) = nI (C (k % 64)) at e39b
        have bd1 : C (k / 8) ≤ 1000000000 := (j1.2.1 (k / 8) (by omega) ha).2
        have bd2 : C (k % 64) ≤ 1000000000 := (j1.2.1 (k % 64) (by omega) hb).2
        have bd3 := o9 (k / 8) (by omega)
        have bd4 := hw k hk5
        have er := hr k hk5 hp
        change ch ≤ 1 at j4
        have hstep : ∀ w, (w = tcm nw m k + C (k % 64) ∧ tcm nw m k ≤ 1000000) ∨ (w = 1000000000 ∧ ¬ tcm nw m k ≤ 1000000) → (C (k / 8) ≤ 1000 * t 1 (k / 8) + 1 + w → T_X9_priceArcs_38_3_10_p79 e (nI m) (nI ch) (nI r) (nI (i + 1)) (va_up I 39 F) L Q) ∧ (¬ C (k / 8) ≤ 1000 * t 1 (k / 8) + 1 + w → T_X9_priceArcs_38_3_10_p79 e (nI m) (nI 1) (nI r) (nI (i + 1)) (va_up I 39 (va_up F (k / 8) (nI (1000 * t 1 (k / 8) + 1 + w)))) L Q) := by
          intro w hww
          have hww2 : (w = tcm nw m k + C (k % 64) ∧ tcm nw m k ≤ 1000000) ∨ ¬ tcm nw m k ≤ 1000000 := by
            rcases hww with h | h
            · exact Or.inl h
            · exact Or.inr h.2
          refine ⟨fun hl => hnext2 (ch, F, C) ⟨j1, prT_k j1 j2 hww2 hl, fun hc => prS_k (j3 hc) hww2 hl, j4⟩, fun hl => ?_⟩
          rcases hww with ⟨h1, h2⟩ | ⟨h1, h2⟩
          · obtain ⟨u1, u2⟩ := prI_u hD hS j1 j2 hk5 ha hb h2 h1 hl
            exact hnext2 (1, va_up F (k / 8) (nI (1000 * t 1 (k / 8) + 1 + w)), va_up C (k / 8) (1000 * t 1 (k / 8) + 1 + w)) ⟨u1, u2, fun h => absurd h Nat.one_ne_zero, Nat.le_refl _⟩
          · omega
        refine b_X9_priceArcs_38_3_10_p79 ?_
        simp (disch := omega) only [pk_mul, nI_add, ksub, kdv, kd8, kd64, kd2, kd3, km8, km64, kt8, ke8, ke64, kcl, kin, kle, klt, keq, up_s, up_n, up_u, true_and, and_true, false_implies, true_implies, not_false_eq_true, not_true_eq_false, c6, q2, e8, cS, er, e39a, e39b]
        refine ⟨fun h0 => hstep _ (Or.inl ⟨?_, ?_⟩), fun h0 => ⟨fun h2 => hstep _ (Or.inl ⟨?_, ?_⟩), fun h2 => ⟨fun h1 => hstep _ (Or.inl ⟨?_, ?_⟩), fun h1 => hstep _ (Or.inr ⟨rfl, ?_⟩)⟩⟩⟩
        · unfold tcm; rw [if_pos (Or.inl h0)]; omega
        · unfold tcm; rw [if_pos (Or.inl h0)]; omega
        · unfold tcm; rw [if_pos (Or.inr h2)]; omega
        · unfold tcm; rw [if_pos (Or.inr h2)]; omega
        · unfold tcm; rw [if_neg (by omega), if_pos h1]
        · unfold tcm; rw [if_neg (by omega), if_pos h1]; omega
        · unfold tcm; rw [if_neg (by omega), if_neg h1]; omega
      · rintro ⟨ch, F, C⟩ ⟨j1, j2, j3, j4⟩
        refine b_X9_priceArcs_38_3_10_p79 ?_
        have q2 : ((tu t).length ≤ (tu t).length) = True := eq_true (Nat.le_refl _)
        simp (disch := omega) only [pk_mul, nI_add, ksub, kdv, kd8, kd64, kd2, kd3, km8, km64, kt8, ke8, ke64, kcl, kin, kle, klt, keq, up_s, up_n, up_u, true_and, and_true, false_implies, true_implies, not_false_eq_true, not_true_eq_false, c6, q2]
        exact hnext (ch, F, C) ⟨prI_s hD hS j1 j2, j3, j4⟩
    · rintro ⟨ch, F, C⟩ ⟨i1, i2, i3⟩
      refine b_X9_priceArcs_38_3_10_p61 ⟨fun _ => hQ F (prI_65 hS.2.1 i1 (by decide)), fun h => absurd (by decide) h⟩
  refine b_X9_priceArcs_38_3_10 ?_
  have h0 : T_X9_priceArcs_38_3_10_p3 e (nI g) (nI m) (nI 0) (va_up I 39 (I 39)) L Q := by
    refine lp_fl (l := ar t) rfl (N := 64) (p := arp t) (S := Nat → Int32) (T := fun i F => T_X9_priceArcs_38_3_10_p3 e (nI g) (nI m) (nI i) (va_up I 39 F) L Q) (fun k F => ∀ a, a < k → 0 < t 1 a → F a = nI (if a % 8 = g then 1000 * t 1 a + 1 else 1000000000)) ?_ ?_ ?_ (I 39) (fun a h => absurd h (Nat.not_lt_zero _))
    · intro k F hk6 hp hi a ha hs
      by_cases he : a = k
      · rw [he] at hs
        unfold arp at hp
        rw [decide_eq_true hs] at hp
        cases hp
      · exact hi a (by omega) hs
    · intro k i F hk6 hp hi hik hv hnext
      have q2 : ((ar t).length ≤ i) = False := eq_false (by omega)
      have e7 : I 7 i = nI k := by rw [cA i hi, hik]
      have bd3 := o9 k hk6
      refine b_X9_priceArcs_38_3_10_p3 ?_
      simp (disch := omega) only [pk_mul, nI_add, ksub, kdv, kd8, kd64, kd2, kd3, km8, km64, kt8, ke8, ke64, kcl, kin, kle, klt, keq, up_s, up_n, up_u, true_and, and_true, false_implies, true_implies, not_false_eq_true, not_true_eq_false, c5, q2, e7, cS]
      refine ⟨fun h => hnext _ (fun a ha hs => ?_), fun h => hnext _ (fun a ha hs => ?_)⟩
      · by_cases he : a = k
        · rw [he, up_s, if_pos h]
        · rw [up_n he]; exact hv a (by omega) hs
      · by_cases he : a = k
        · rw [he, up_s, if_neg h]
        · rw [up_n he]; exact hv a (by omega) hs
    · intro F hv
      refine b_X9_priceArcs_38_3_10_p3 ?_
      have q2 : ((ar t).length ≤ (ar t).length) = True := eq_true (Nat.le_refl _)
      simp (disch := omega) only [pk_mul, nI_add, ksub, kdv, kd8, kd64, kd2, kd3, km8, km64, kt8, ke8, ke64, kcl, kin, kle, klt, keq, up_s, up_n, up_u, true_and, and_true, false_implies, true_implies, not_false_eq_true, not_true_eq_false, c5, q2]
      refine h61 F (fun a => if a % 8 = g then 1000 * t 1 a + 1 else 1000000000) ⟨hv, fun a ha hs => ?_, fun a ha hs hf hr0 => ?_⟩
      · show cC (t 1) D a ≤ (if a % 8 = g then 1000 * t 1 a + 1 else 1000000000) ∧ (if a % 8 = g then 1000 * t 1 a + 1 else 1000000000) ≤ 1000000000
        have bd3 := o9 a ha
        by_cases hgg : a % 8 = g
        · rw [if_pos hgg]
          have h1 := (hD a ha hs).2.1 hgg
          have h2 : cC (t 1) D a = 1000 * t 1 a + 1 := by
            unfold cC
            rw [if_pos (by omega), h1]
            rfl
          omega
        · rw [if_neg hgg]
          exact ⟨(cC_b hD hS ha hs).1, Nat.le_refl _⟩
      · show (if a % 8 = g then 1000 * t 1 a + 1 else 1000000000) = _
        have hgg := rk_0 hD ha hs hf hr0
        have h1 := (hD a ha hs).2.1 hgg
        rw [if_pos hgg]
        unfold cC
        rw [if_pos (by omega), h1]
        rfl
  rw [up_id] at h0
  exact h0
theorem c_price_2 {e : am_V} {I : Nat → Nat → Int32} {L : Nat → Nat → Int64} {Q : (Nat → Nat → Int32) → Prop} {t : tw} {nw : Nat → Nat} {m g : Nat} (hC : CT t I) (hk : tok t) (hr : ∀ k, k < 512 → tB t k = true → I 2 k = nI (nw k)) (hw : ∀ k, k < 512 → nw k ≤ 1000) (hm : m ≤ 2) (hg : g < 8) (hQ : ∀ F', (∀ a, a < 64 → 0 < t 1 a → F' a = nI (cC (t 1) (wD (t 1) (tcm nw m) g) a)) → Q (va_up I 39 F')) : C_X9_priceArcs_38_3_2 e (nI g) (nI m) I L Q := by
  have hS := tok_st hk nw m
  obtain ⟨c0, c1, c2, c3, c4, c5, c6, c7, c8, cS, cD, cN, cA, cT, cM, cR, cF, cO, cH, cL⟩ := hC
  obtain ⟨o0, oT, oZ, oY, oD, o9, oN, o28, oB, oX, oE, oF, oA, oH, oU, oV⟩ := hk
  have hD := wD_is (t 1) (tcm nw m) g
  generalize wD (t 1) (tcm nw m) g = D at hQ hD
  have hla : (ar t).length ≤ 64 := by rw [cn_fl]; exact cn_n _ _
  have hlt : (tu t).length ≤ 512 := by rw [cn_fl]; exact cn_n _ _
  have h61 : ∀ F C, prI (t 1) D 0 F C → T_X9_priceArcs_38_3_2_p61 e (nI m) (nI 1) (nI 0) (va_up I 39 F) L Q := by
    intro F C h0
    refine lp_up (n := 65) (S := Nat × (Nat → Int32) × (Nat → Nat)) (T := fun r s => T_X9_priceArcs_38_3_2_p61 e (nI m) (nI s.1) (nI r) (va_up I 39 s.2.1) L Q) (fun r s => prI (t 1) D r s.2.1 s.2.2 ∧ (s.1 = 0 → prS (t 1) (tcm nw m) s.2.2 512) ∧ s.1 ≤ 1) ?_ ?_ 0 (1, F, C) (Nat.zero_le _) ⟨h0, fun h => absurd h Nat.one_ne_zero, Nat.le_refl _⟩
    · rintro r ⟨ch, F, C⟩ hr65 ⟨i1, i2, i3⟩ hnext
      refine b_X9_priceArcs_38_3_2_p61 ?_
      have q1 : (64 < r) = False := eq_false (by omega)
      change ch ≤ 1 at i3
      simp (disch := omega) only [pk_mul, nI_add, ksub, kdv, kd8, kd64, kd2, kd3, km8, km64, kt8, ke8, ke64, kcl, kin, kle, klt, keq, up_s, up_n, up_u, true_and, and_true, false_implies, true_implies, not_false_eq_true, not_true_eq_false, q1]
      refine ⟨fun hch => hQ F (prI_e hD hS i1 (i2 hch)), fun _ => ?_⟩
      refine lp_fl (l := tu t) rfl (N := 512) (p := tB t) (S := Nat × (Nat → Int32) × (Nat → Nat)) (T := fun i s => T_X9_priceArcs_38_3_2_p79 e (nI m) (nI s.1) (nI r) (nI i) (va_up I 39 s.2.1) L Q) (fun k s => prI (t 1) D r s.2.1 s.2.2 ∧ prT (t 1) (tcm nw m) D s.2.2 r k ∧ (s.1 = 0 → prS (t 1) (tcm nw m) s.2.2 k) ∧ s.1 ≤ 1) ?_ ?_ ?_ (0, F, C) ⟨i1, fun k' h => absurd h (Nat.not_lt_zero _), fun _ k' h => absurd h (Nat.not_lt_zero _), Nat.zero_le _⟩
      · rintro k ⟨ch, F, C⟩ hk5 hp ⟨j1, j2, j3, j4⟩
        have hno : ¬ (0 < t 1 (k / 8) ∧ 0 < t 1 (k % 64)) := fun h => by rw [tB_i.mpr h] at hp; cases hp
        refine ⟨j1, fun k' hk' q1 q2 => ?_, fun hc k' hk' q1 q2 => ?_, j4⟩
        · by_cases he : k' = k
          · rw [he] at q1 q2; exact absurd ⟨q1, q2⟩ hno
          · exact j2 k' (by omega) q1 q2
        · by_cases he : k' = k
          · rw [he] at q1 q2; exact absurd ⟨q1, q2⟩ hno
          · exact j3 hc k' (by omega) q1 q2
      · rintro k i ⟨ch, F, C⟩ hk5 hp hi hik ⟨j1, j2, j3, j4⟩ hnext2
        obtain ⟨ha, hb⟩ := tB_i.mp hp
        have q2 : ((tu t).length ≤ i) = False := eq_false (by omega)
        have e8 : I 8 i = nI k := by rw [cT i hi, hik]
        have e39a := j1.1 (k / 8) (by omega) ha
        have e39b := j1.1 (k % 64) (by omega) hb
        change F (k / 8) = nI (C (k / 8)) at e39a
        change F (k % 64) = nI (C (k % 64)) at e39b
        have bd1 : C (k / 8) ≤ 1000000000 := (j1.2.1 (k / 8) (by omega) ha).2
        have bd2 : C (k % 64) ≤ 1000000000 := (j1.2.1 (k % 64) (by omega) hb).2
        have bd3 := o9 (k / 8) (by omega)
        have bd4 := hw k hk5
        have er := hr k hk5 hp
        change ch ≤ 1 at j4
        have hstep : ∀ w, (w = tcm nw m k + C (k % 64) ∧ tcm nw m k ≤ 1000000) ∨ (w = 1000000000 ∧ ¬ tcm nw m k ≤ 1000000) → (C (k / 8) ≤ 1000 * t 1 (k / 8) + 1 + w → T_X9_priceArcs_38_3_2_p79 e (nI m) (nI ch) (nI r) (nI (i + 1)) (va_up I 39 F) L Q) ∧ (¬ C (k / 8) ≤ 1000 * t 1 (k / 8) + 1 + w → T_X9_priceArcs_38_3_2_p79 e (nI m) (nI 1) (nI r) (nI (i + 1)) (va_up I 39 (va_up F (k / 8) (nI (1000 * t 1 (k / 8) + 1 + w)))) L Q) := by
          intro w hww
          have hww2 : (w = tcm nw m k + C (k % 64) ∧ tcm nw m k ≤ 1000000) ∨ ¬ tcm nw m k ≤ 1000000 := by
            rcases hww with h | h
            · exact Or.inl h
            · exact Or.inr h.2
          refine ⟨fun hl => hnext2 (ch, F, C) ⟨j1, prT_k j1 j2 hww2 hl, fun hc => prS_k (j3 hc) hww2 hl, j4⟩, fun hl => ?_⟩
          rcases hww with ⟨h1, h2⟩ | ⟨h1, h2⟩
          · obtain ⟨u1, u2⟩ := prI_u hD hS j1 j2 hk5 ha hb h2 h1 hl
            exact hnext2 (1, va_up F (k / 8) (nI (1000 * t 1 (k / 8) + 1 + w)), va_up C (k / 8) (1000 * t 1 (k / 8) + 1 + w)) ⟨u1, u2, fun h => absurd h Nat.one_ne_zero, Nat.le_refl _⟩
          · omega
        refine b_X9_priceArcs_38_3_2_p79 ?_
        simp (disch := omega) only [pk_mul, nI_add, ksub, kdv, kd8, kd64, kd2, kd3, km8, km64, kt8, ke8, ke64, kcl, kin, kle, klt, keq, up_s, up_n, up_u, true_and, and_true, false_implies, true_implies, not_false_eq_true, not_true_eq_false, c6, q2, e8, cS, er, e39a, e39b]
        refine ⟨fun h0 => hstep _ (Or.inl ⟨?_, ?_⟩), fun h0 => ⟨fun h2 => hstep _ (Or.inl ⟨?_, ?_⟩), fun h2 => ⟨fun h1 => hstep _ (Or.inl ⟨?_, ?_⟩), fun h1 => hstep _ (Or.inr ⟨rfl, ?_⟩)⟩⟩⟩
        · unfold tcm; rw [if_pos (Or.inl h0)]; omega
        · unfold tcm; rw [if_pos (Or.inl h0)]; omega
        · unfold tcm; rw [if_pos (Or.inr h2)]; omega
        · unfold tcm; rw [if_pos (Or.inr h2)]; omega
        · unfold tcm; rw [if_neg (by omega), if_pos h1]
        · unfold tcm; rw [if_neg (by omega), if_pos h1]; omega
        · unfold tcm; rw [if_neg (by omega), if_neg h1]; omega
      · rintro ⟨ch, F, C⟩ ⟨j1, j2, j3, j4⟩
        refine b_X9_priceArcs_38_3_2_p79 ?_
        have q2 : ((tu t).length ≤ (tu t).length) = True := eq_true (Nat.le_refl _)
        simp (disch := omega) only [pk_mul, nI_add, ksub, kdv, kd8, kd64, kd2, kd3, km8, km64, kt8, ke8, ke64, kcl, kin, kle, klt, keq, up_s, up_n, up_u, true_and, and_true, false_implies, true_implies, not_false_eq_true, not_true_eq_false, c6, q2]
        exact hnext (ch, F, C) ⟨prI_s hD hS j1 j2, j3, j4⟩
    · rintro ⟨ch, F, C⟩ ⟨i1, i2, i3⟩
      refine b_X9_priceArcs_38_3_2_p61 ⟨fun _ => hQ F (prI_65 hS.2.1 i1 (by decide)), fun h => absurd (by decide) h⟩
  refine b_X9_priceArcs_38_3_2 ?_
  have h0 : T_X9_priceArcs_38_3_2_p3 e (nI g) (nI m) (nI 0) (va_up I 39 (I 39)) L Q := by
    refine lp_fl (l := ar t) rfl (N := 64) (p := arp t) (S := Nat → Int32) (T := fun i F => T_X9_priceArcs_38_3_2_p3 e (nI g) (nI m) (nI i) (va_up I 39 F) L Q) (fun k F => ∀ a, a < k → 0 < t 1 a → F a = nI (if a % 8 = g then 1000 * t 1 a + 1 else 1000000000)) ?_ ?_ ?_ (I 39) (fun a h => absurd h (Nat.not_lt_zero _))
    · intro k F hk6 hp hi a ha hs
      by_cases he : a = k
      · rw [he] at hs
        unfold arp at hp
        rw [decide_eq_true hs] at hp
        cases hp
      · exact hi a (by omega) hs
    · intro k i F hk6 hp hi hik hv hnext
      have q2 : ((ar t).length ≤ i) = False := eq_false (by omega)
      have e7 : I 7 i = nI k := by rw [cA i hi, hik]
      have bd3 := o9 k hk6
      refine b_X9_priceArcs_38_3_2_p3 ?_
      simp (disch := omega) only [pk_mul, nI_add, ksub, kdv, kd8, kd64, kd2, kd3, km8, km64, kt8, ke8, ke64, kcl, kin, kle, klt, keq, up_s, up_n, up_u, true_and, and_true, false_implies, true_implies, not_false_eq_true, not_true_eq_false, c5, q2, e7, cS]
      refine ⟨fun h => hnext _ (fun a ha hs => ?_), fun h => hnext _ (fun a ha hs => ?_)⟩
      · by_cases he : a = k
        · rw [he, up_s, if_pos h]
        · rw [up_n he]; exact hv a (by omega) hs
      · by_cases he : a = k
        · rw [he, up_s, if_neg h]
        · rw [up_n he]; exact hv a (by omega) hs
    · intro F hv
      refine b_X9_priceArcs_38_3_2_p3 ?_
      have q2 : ((ar t).length ≤ (ar t).length) = True := eq_true (Nat.le_refl _)
      simp (disch := omega) only [pk_mul, nI_add, ksub, kdv, kd8, kd64, kd2, kd3, km8, km64, kt8, ke8, ke64, kcl, kin, kle, klt, keq, up_s, up_n, up_u, true_and, and_true, false_implies, true_implies, not_false_eq_true, not_true_eq_false, c5, q2]
      refine h61 F (fun a => if a % 8 = g then 1000 * t 1 a + 1 else 1000000000) ⟨hv, fun a ha hs => ?_, fun a ha hs hf hr0 => ?_⟩
      · show cC (t 1) D a ≤ (if a % 8 = g then 1000 * t 1 a + 1 else 1000000000) ∧ (if a % 8 = g then 1000 * t 1 a + 1 else 1000000000) ≤ 1000000000
        have bd3 := o9 a ha
        by_cases hgg : a % 8 = g
        · rw [if_pos hgg]
          have h1 := (hD a ha hs).2.1 hgg
          have h2 : cC (t 1) D a = 1000 * t 1 a + 1 := by
            unfold cC
            rw [if_pos (by omega), h1]
            rfl
          omega
        · rw [if_neg hgg]
          exact ⟨(cC_b hD hS ha hs).1, Nat.le_refl _⟩
      · show (if a % 8 = g then 1000 * t 1 a + 1 else 1000000000) = _
        have hgg := rk_0 hD ha hs hf hr0
        have h1 := (hD a ha hs).2.1 hgg
        rw [if_pos hgg]
        unfold cC
        rw [if_pos (by omega), h1]
        rfl
  rw [up_id] at h0
  exact h0
theorem c_price_49 {e : am_V} {I : Nat → Nat → Int32} {L : Nat → Nat → Int64} {Q : (Nat → Nat → Int32) → Prop} {t : tw} {nw : Nat → Nat} {m g : Nat} (hC : CT t I) (hk : tok t) (hr : ∀ k, k < 512 → tB t k = true → I 49 k = nI (nw k)) (hw : ∀ k, k < 512 → nw k ≤ 1000) (hm : m ≤ 2) (hg : g < 8) (hQ : ∀ F', (∀ a, a < 64 → 0 < t 1 a → F' a = nI (cC (t 1) (wD (t 1) (tcm nw m) g) a)) → Q (va_up I 39 F')) : C_X9_priceArcs_38_3_49 e (nI g) (nI m) I L Q := by
  have hS := tok_st hk nw m
  obtain ⟨c0, c1, c2, c3, c4, c5, c6, c7, c8, cS, cD, cN, cA, cT, cM, cR, cF, cO, cH, cL⟩ := hC
  obtain ⟨o0, oT, oZ, oY, oD, o9, oN, o28, oB, oX, oE, oF, oA, oH, oU, oV⟩ := hk
  have hD := wD_is (t 1) (tcm nw m) g
  generalize wD (t 1) (tcm nw m) g = D at hQ hD
  have hla : (ar t).length ≤ 64 := by rw [cn_fl]; exact cn_n _ _
  have hlt : (tu t).length ≤ 512 := by rw [cn_fl]; exact cn_n _ _
  have h61 : ∀ F C, prI (t 1) D 0 F C → T_X9_priceArcs_38_3_49_p61 e (nI m) (nI 1) (nI 0) (va_up I 39 F) L Q := by
    intro F C h0
    refine lp_up (n := 65) (S := Nat × (Nat → Int32) × (Nat → Nat)) (T := fun r s => T_X9_priceArcs_38_3_49_p61 e (nI m) (nI s.1) (nI r) (va_up I 39 s.2.1) L Q) (fun r s => prI (t 1) D r s.2.1 s.2.2 ∧ (s.1 = 0 → prS (t 1) (tcm nw m) s.2.2 512) ∧ s.1 ≤ 1) ?_ ?_ 0 (1, F, C) (Nat.zero_le _) ⟨h0, fun h => absurd h Nat.one_ne_zero, Nat.le_refl _⟩
    · rintro r ⟨ch, F, C⟩ hr65 ⟨i1, i2, i3⟩ hnext
      refine b_X9_priceArcs_38_3_49_p61 ?_
      have q1 : (64 < r) = False := eq_false (by omega)
      change ch ≤ 1 at i3
      simp (disch := omega) only [pk_mul, nI_add, ksub, kdv, kd8, kd64, kd2, kd3, km8, km64, kt8, ke8, ke64, kcl, kin, kle, klt, keq, up_s, up_n, up_u, true_and, and_true, false_implies, true_implies, not_false_eq_true, not_true_eq_false, q1]
      refine ⟨fun hch => hQ F (prI_e hD hS i1 (i2 hch)), fun _ => ?_⟩
      refine lp_fl (l := tu t) rfl (N := 512) (p := tB t) (S := Nat × (Nat → Int32) × (Nat → Nat)) (T := fun i s => T_X9_priceArcs_38_3_49_p79 e (nI m) (nI s.1) (nI r) (nI i) (va_up I 39 s.2.1) L Q) (fun k s => prI (t 1) D r s.2.1 s.2.2 ∧ prT (t 1) (tcm nw m) D s.2.2 r k ∧ (s.1 = 0 → prS (t 1) (tcm nw m) s.2.2 k) ∧ s.1 ≤ 1) ?_ ?_ ?_ (0, F, C) ⟨i1, fun k' h => absurd h (Nat.not_lt_zero _), fun _ k' h => absurd h (Nat.not_lt_zero _), Nat.zero_le _⟩
      · rintro k ⟨ch, F, C⟩ hk5 hp ⟨j1, j2, j3, j4⟩
        have hno : ¬ (0 < t 1 (k / 8) ∧ 0 < t 1 (k % 64)) := fun h => by rw [tB_i.mpr h] at hp; cases hp
        refine ⟨j1, fun k' hk' q1 q2 => ?_, fun hc k' hk' q1 q2 => ?_, j4⟩
        · by_cases he : k' = k
          · rw [he] at q1 q2; exact absurd ⟨q1, q2⟩ hno
          · exact j2 k' (by omega) q1 q2
        · by_cases he : k' = k
          · rw [he] at q1 q2; exact absurd ⟨q1, q2⟩ hno
          · exact j3 hc k' (by omega) q1 q2
      · rintro k i ⟨ch, F, C⟩ hk5 hp hi hik ⟨j1, j2, j3, j4⟩ hnext2
        obtain ⟨ha, hb⟩ := tB_i.mp hp
        have q2 : ((tu t).length ≤ i) = False := eq_false (by omega)
        have e8 : I 8 i = nI k := by rw [cT i hi, hik]
        have e39a := j1.1 (k / 8) (by omega) ha
        have e39b := j1.1 (k % 64) (by omega) hb
        change F (k / 8) = nI (C (k / 8)) at e39a
        change F (k % 64) = nI (C (k % 64)) at e39b
        have bd1 : C (k / 8) ≤ 1000000000 := (j1.2.1 (k / 8) (by omega) ha).2
        have bd2 : C (k % 64) ≤ 1000000000 := (j1.2.1 (k % 64) (by omega) hb).2
        have bd3 := o9 (k / 8) (by omega)
        have bd4 := hw k hk5
        have er := hr k hk5 hp
        change ch ≤ 1 at j4
        have hstep : ∀ w, (w = tcm nw m k + C (k % 64) ∧ tcm nw m k ≤ 1000000) ∨ (w = 1000000000 ∧ ¬ tcm nw m k ≤ 1000000) → (C (k / 8) ≤ 1000 * t 1 (k / 8) + 1 + w → T_X9_priceArcs_38_3_49_p79 e (nI m) (nI ch) (nI r) (nI (i + 1)) (va_up I 39 F) L Q) ∧ (¬ C (k / 8) ≤ 1000 * t 1 (k / 8) + 1 + w → T_X9_priceArcs_38_3_49_p79 e (nI m) (nI 1) (nI r) (nI (i + 1)) (va_up I 39 (va_up F (k / 8) (nI (1000 * t 1 (k / 8) + 1 + w)))) L Q) := by
          intro w hww
          have hww2 : (w = tcm nw m k + C (k % 64) ∧ tcm nw m k ≤ 1000000) ∨ ¬ tcm nw m k ≤ 1000000 := by
            rcases hww with h | h
            · exact Or.inl h
            · exact Or.inr h.2
          refine ⟨fun hl => hnext2 (ch, F, C) ⟨j1, prT_k j1 j2 hww2 hl, fun hc => prS_k (j3 hc) hww2 hl, j4⟩, fun hl => ?_⟩
          rcases hww with ⟨h1, h2⟩ | ⟨h1, h2⟩
          · obtain ⟨u1, u2⟩ := prI_u hD hS j1 j2 hk5 ha hb h2 h1 hl
            exact hnext2 (1, va_up F (k / 8) (nI (1000 * t 1 (k / 8) + 1 + w)), va_up C (k / 8) (1000 * t 1 (k / 8) + 1 + w)) ⟨u1, u2, fun h => absurd h Nat.one_ne_zero, Nat.le_refl _⟩
          · omega
        refine b_X9_priceArcs_38_3_49_p79 ?_
        simp (disch := omega) only [pk_mul, nI_add, ksub, kdv, kd8, kd64, kd2, kd3, km8, km64, kt8, ke8, ke64, kcl, kin, kle, klt, keq, up_s, up_n, up_u, true_and, and_true, false_implies, true_implies, not_false_eq_true, not_true_eq_false, c6, q2, e8, cS, er, e39a, e39b]
        refine ⟨fun h0 => hstep _ (Or.inl ⟨?_, ?_⟩), fun h0 => ⟨fun h2 => hstep _ (Or.inl ⟨?_, ?_⟩), fun h2 => ⟨fun h1 => hstep _ (Or.inl ⟨?_, ?_⟩), fun h1 => hstep _ (Or.inr ⟨rfl, ?_⟩)⟩⟩⟩
        · unfold tcm; rw [if_pos (Or.inl h0)]; omega
        · unfold tcm; rw [if_pos (Or.inl h0)]; omega
        · unfold tcm; rw [if_pos (Or.inr h2)]; omega
        · unfold tcm; rw [if_pos (Or.inr h2)]; omega
        · unfold tcm; rw [if_neg (by omega), if_pos h1]
        · unfold tcm; rw [if_neg (by omega), if_pos h1]; omega
        · unfold tcm; rw [if_neg (by omega), if_neg h1]; omega
      · rintro ⟨ch, F, C⟩ ⟨j1, j2, j3, j4⟩
        refine b_X9_priceArcs_38_3_49_p79 ?_
        have q2 : ((tu t).length ≤ (tu t).length) = True := eq_true (Nat.le_refl _)
        simp (disch := omega) only [pk_mul, nI_add, ksub, kdv, kd8, kd64, kd2, kd3, km8, km64, kt8, ke8, ke64, kcl, kin, kle, klt, keq, up_s, up_n, up_u, true_and, and_true, false_implies, true_implies, not_false_eq_true, not_true_eq_false, c6, q2]
        exact hnext (ch, F, C) ⟨prI_s hD hS j1 j2, j3, j4⟩
    · rintro ⟨ch, F, C⟩ ⟨i1, i2, i3⟩
      refine b_X9_priceArcs_38_3_49_p61 ⟨fun _ => hQ F (prI_65 hS.2.1 i1 (by decide)), fun h => absurd (by decide) h⟩
  refine b_X9_priceArcs_38_3_49 ?_
  have h0 : T_X9_priceArcs_38_3_49_p3 e (nI g) (nI m) (nI 0) (va_up I 39 (I 39)) L Q := by
    refine lp_fl (l := ar t) rfl (N := 64) (p := arp t) (S := Nat → Int32) (T := fun i F => T_X9_priceArcs_38_3_49_p3 e (nI g) (nI m) (nI i) (va_up I 39 F) L Q) (fun k F => ∀ a, a < k → 0 < t 1 a → F a = nI (if a % 8 = g then 1000 * t 1 a + 1 else 1000000000)) ?_ ?_ ?_ (I 39) (fun a h => absurd h (Nat.not_lt_zero _))
    · intro k F hk6 hp hi a ha hs
      by_cases he : a = k
      · rw [he] at hs
        unfold arp at hp
        rw [decide_eq_true hs] at hp
        cases hp
      · exact hi a (by omega) hs
    · intro k i F hk6 hp hi hik hv hnext
      have q2 : ((ar t).length ≤ i) = False := eq_false (by omega)
      have e7 : I 7 i = nI k := by rw [cA i hi, hik]
      have bd3 := o9 k hk6
      refine b_X9_priceArcs_38_3_49_p3 ?_
      simp (disch := omega) only [pk_mul, nI_add, ksub, kdv, kd8, kd64, kd2, kd3, km8, km64, kt8, ke8, ke64, kcl, kin, kle, klt, keq, up_s, up_n, up_u, true_and, and_true, false_implies, true_implies, not_false_eq_true, not_true_eq_false, c5, q2, e7, cS]
      refine ⟨fun h => hnext _ (fun a ha hs => ?_), fun h => hnext _ (fun a ha hs => ?_)⟩
      · by_cases he : a = k
        · rw [he, up_s, if_pos h]
        · rw [up_n he]; exact hv a (by omega) hs
      · by_cases he : a = k
        · rw [he, up_s, if_neg h]
        · rw [up_n he]; exact hv a (by omega) hs
    · intro F hv
      refine b_X9_priceArcs_38_3_49_p3 ?_
      have q2 : ((ar t).length ≤ (ar t).length) = True := eq_true (Nat.le_refl _)
      simp (disch := omega) only [pk_mul, nI_add, ksub, kdv, kd8, kd64, kd2, kd3, km8, km64, kt8, ke8, ke64, kcl, kin, kle, klt, keq, up_s, up_n, up_u, true_and, and_true, false_implies, true_implies, not_false_eq_true, not_true_eq_false, c5, q2]
      refine h61 F (fun a => if a % 8 = g then 1000 * t 1 a + 1 else 1000000000) ⟨hv, fun a ha hs => ?_, fun a ha hs hf hr0 => ?_⟩
      · show cC (t 1) D a ≤ (if a % 8 = g then 1000 * t 1 a + 1 else 1000000000) ∧ (if a % 8 = g then 1000 * t 1 a + 1 else 1000000000) ≤ 1000000000
        have bd3 := o9 a ha
        by_cases hgg : a % 8 = g
        · rw [if_pos hgg]
          have h1 := (hD a ha hs).2.1 hgg
          have h2 : cC (t 1) D a = 1000 * t 1 a + 1 := by
            unfold cC
            rw [if_pos (by omega), h1]
            rfl
          omega
        · rw [if_neg hgg]
          exact ⟨(cC_b hD hS ha hs).1, Nat.le_refl _⟩
      · show (if a % 8 = g then 1000 * t 1 a + 1 else 1000000000) = _
        have hgg := rk_0 hD ha hs hf hr0
        have h1 := (hD a ha hs).2.1 hgg
        rw [if_pos hgg]
        unfold cC
        rw [if_pos (by omega), h1]
        rfl
  rw [up_id] at h0
  exact h0
theorem c_price_52 {e : am_V} {I : Nat → Nat → Int32} {L : Nat → Nat → Int64} {Q : (Nat → Nat → Int32) → Prop} {t : tw} {nw : Nat → Nat} {m g : Nat} (hC : CT t I) (hk : tok t) (hr : ∀ k, k < 512 → tB t k = true → I 52 k = nI (nw k)) (hw : ∀ k, k < 512 → nw k ≤ 1000) (hm : m ≤ 2) (hg : g < 8) (hQ : ∀ F', (∀ a, a < 64 → 0 < t 1 a → F' a = nI (cC (t 1) (wD (t 1) (tcm nw m) g) a)) → Q (va_up I 39 F')) : C_X9_priceArcs_38_3_52 e (nI g) (nI m) I L Q := by
  have hS := tok_st hk nw m
  obtain ⟨c0, c1, c2, c3, c4, c5, c6, c7, c8, cS, cD, cN, cA, cT, cM, cR, cF, cO, cH, cL⟩ := hC
  obtain ⟨o0, oT, oZ, oY, oD, o9, oN, o28, oB, oX, oE, oF, oA, oH, oU, oV⟩ := hk
  have hD := wD_is (t 1) (tcm nw m) g
  generalize wD (t 1) (tcm nw m) g = D at hQ hD
  have hla : (ar t).length ≤ 64 := by rw [cn_fl]; exact cn_n _ _
  have hlt : (tu t).length ≤ 512 := by rw [cn_fl]; exact cn_n _ _
  have h61 : ∀ F C, prI (t 1) D 0 F C → T_X9_priceArcs_38_3_52_p61 e (nI m) (nI 1) (nI 0) (va_up I 39 F) L Q := by
    intro F C h0
    refine lp_up (n := 65) (S := Nat × (Nat → Int32) × (Nat → Nat)) (T := fun r s => T_X9_priceArcs_38_3_52_p61 e (nI m) (nI s.1) (nI r) (va_up I 39 s.2.1) L Q) (fun r s => prI (t 1) D r s.2.1 s.2.2 ∧ (s.1 = 0 → prS (t 1) (tcm nw m) s.2.2 512) ∧ s.1 ≤ 1) ?_ ?_ 0 (1, F, C) (Nat.zero_le _) ⟨h0, fun h => absurd h Nat.one_ne_zero, Nat.le_refl _⟩
    · rintro r ⟨ch, F, C⟩ hr65 ⟨i1, i2, i3⟩ hnext
      refine b_X9_priceArcs_38_3_52_p61 ?_
      have q1 : (64 < r) = False := eq_false (by omega)
      change ch ≤ 1 at i3
      simp (disch := omega) only [pk_mul, nI_add, ksub, kdv, kd8, kd64, kd2, kd3, km8, km64, kt8, ke8, ke64, kcl, kin, kle, klt, keq, up_s, up_n, up_u, true_and, and_true, false_implies, true_implies, not_false_eq_true, not_true_eq_false, q1]
      refine ⟨fun hch => hQ F (prI_e hD hS i1 (i2 hch)), fun _ => ?_⟩
      refine lp_fl (l := tu t) rfl (N := 512) (p := tB t) (S := Nat × (Nat → Int32) × (Nat → Nat)) (T := fun i s => T_X9_priceArcs_38_3_52_p79 e (nI m) (nI s.1) (nI r) (nI i) (va_up I 39 s.2.1) L Q) (fun k s => prI (t 1) D r s.2.1 s.2.2 ∧ prT (t 1) (tcm nw m) D s.2.2 r k ∧ (s.1 = 0 → prS (t 1) (tcm nw m) s.2.2 k) ∧ s.1 ≤ 1) ?_ ?_ ?_ (0, F, C) ⟨i1, fun k' h => absurd h (Nat.not_lt_zero _), fun _ k' h => absurd h (Nat.not_lt_zero _), Nat.zero_le _⟩
      · rintro k ⟨ch, F, C⟩ hk5 hp ⟨j1, j2, j3, j4⟩
        have hno : ¬ (0 < t 1 (k / 8) ∧ 0 < t 1 (k % 64)) := fun h => by rw [tB_i.mpr h] at hp; cases hp
        refine ⟨j1, fun k' hk' q1 q2 => ?_, fun hc k' hk' q1 q2 => ?_, j4⟩
        · by_cases he : k' = k
          · rw [he] at q1 q2; exact absurd ⟨q1, q2⟩ hno
          · exact j2 k' (by omega) q1 q2
        · by_cases he : k' = k
          · rw [he] at q1 q2; exact absurd ⟨q1, q2⟩ hno
          · exact j3 hc k' (by omega) q1 q2
      · rintro k i ⟨ch, F, C⟩ hk5 hp hi hik ⟨j1, j2, j3, j4⟩ hnext2
        obtain ⟨ha, hb⟩ := tB_i.mp hp
        have q2 : ((tu t).length ≤ i) = False := eq_false (by omega)
        have e8 : I 8 i = nI k := by rw [cT i hi, hik]
        have e39a := j1.1 (k / 8) (by omega) ha
        have e39b := j1.1 (k % 64) (by omega) hb
        change F (k / 8) = nI (C (k / 8)) at e39a
        change F (k % 64) = nI (C (k % 64)) at e39b
        have bd1 : C (k / 8) ≤ 1000000000 := (j1.2.1 (k / 8) (by omega) ha).2
        have bd2 : C (k % 64) ≤ 1000000000 := (j1.2.1 (k % 64) (by omega) hb).2
        have bd3 := o9 (k / 8) (by omega)
        have bd4 := hw k hk5
        have er := hr k hk5 hp
        change ch ≤ 1 at j4
        have hstep : ∀ w, (w = tcm nw m k + C (k % 64) ∧ tcm nw m k ≤ 1000000) ∨ (w = 1000000000 ∧ ¬ tcm nw m k ≤ 1000000) → (C (k / 8) ≤ 1000 * t 1 (k / 8) + 1 + w → T_X9_priceArcs_38_3_52_p79 e (nI m) (nI ch) (nI r) (nI (i + 1)) (va_up I 39 F) L Q) ∧ (¬ C (k / 8) ≤ 1000 * t 1 (k / 8) + 1 + w → T_X9_priceArcs_38_3_52_p79 e (nI m) (nI 1) (nI r) (nI (i + 1)) (va_up I 39 (va_up F (k / 8) (nI (1000 * t 1 (k / 8) + 1 + w)))) L Q) := by
          intro w hww
          have hww2 : (w = tcm nw m k + C (k % 64) ∧ tcm nw m k ≤ 1000000) ∨ ¬ tcm nw m k ≤ 1000000 := by
            rcases hww with h | h
            · exact Or.inl h
            · exact Or.inr h.2
          refine ⟨fun hl => hnext2 (ch, F, C) ⟨j1, prT_k j1 j2 hww2 hl, fun hc => prS_k (j3 hc) hww2 hl, j4⟩, fun hl => ?_⟩
          rcases hww with ⟨h1, h2⟩ | ⟨h1, h2⟩
          · obtain ⟨u1, u2⟩ := prI_u hD hS j1 j2 hk5 ha hb h2 h1 hl
            exact hnext2 (1, va_up F (k / 8) (nI (1000 * t 1 (k / 8) + 1 + w)), va_up C (k / 8) (1000 * t 1 (k / 8) + 1 + w)) ⟨u1, u2, fun h => absurd h Nat.one_ne_zero, Nat.le_refl _⟩
          · omega
        refine b_X9_priceArcs_38_3_52_p79 ?_
        simp (disch := omega) only [pk_mul, nI_add, ksub, kdv, kd8, kd64, kd2, kd3, km8, km64, kt8, ke8, ke64, kcl, kin, kle, klt, keq, up_s, up_n, up_u, true_and, and_true, false_implies, true_implies, not_false_eq_true, not_true_eq_false, c6, q2, e8, cS, er, e39a, e39b]
        refine ⟨fun h0 => hstep _ (Or.inl ⟨?_, ?_⟩), fun h0 => ⟨fun h2 => hstep _ (Or.inl ⟨?_, ?_⟩), fun h2 => ⟨fun h1 => hstep _ (Or.inl ⟨?_, ?_⟩), fun h1 => hstep _ (Or.inr ⟨rfl, ?_⟩)⟩⟩⟩
        · unfold tcm; rw [if_pos (Or.inl h0)]; omega
        · unfold tcm; rw [if_pos (Or.inl h0)]; omega
        · unfold tcm; rw [if_pos (Or.inr h2)]; omega
        · unfold tcm; rw [if_pos (Or.inr h2)]; omega
        · unfold tcm; rw [if_neg (by omega), if_pos h1]
        · unfold tcm; rw [if_neg (by omega), if_pos h1]; omega
        · unfold tcm; rw [if_neg (by omega), if_neg h1]; omega
      · rintro ⟨ch, F, C⟩ ⟨j1, j2, j3, j4⟩
        refine b_X9_priceArcs_38_3_52_p79 ?_
        have q2 : ((tu t).length ≤ (tu t).length) = True := eq_true (Nat.le_refl _)
        simp (disch := omega) only [pk_mul, nI_add, ksub, kdv, kd8, kd64, kd2, kd3, km8, km64, kt8, ke8, ke64, kcl, kin, kle, klt, keq, up_s, up_n, up_u, true_and, and_true, false_implies, true_implies, not_false_eq_true, not_true_eq_false, c6, q2]
        exact hnext (ch, F, C) ⟨prI_s hD hS j1 j2, j3, j4⟩
    · rintro ⟨ch, F, C⟩ ⟨i1, i2, i3⟩
      refine b_X9_priceArcs_38_3_52_p61 ⟨fun _ => hQ F (prI_65 hS.2.1 i1 (by decide)), fun h => absurd (by decide) h⟩
  refine b_X9_priceArcs_38_3_52 ?_
  have h0 : T_X9_priceArcs_38_3_52_p3 e (nI g) (nI m) (nI 0) (va_up I 39 (I 39)) L Q := by
    refine lp_fl (l := ar t) rfl (N := 64) (p := arp t) (S := Nat → Int32) (T := fun i F => T_X9_priceArcs_38_3_52_p3 e (nI g) (nI m) (nI i) (va_up I 39 F) L Q) (fun k F => ∀ a, a < k → 0 < t 1 a → F a = nI (if a % 8 = g then 1000 * t 1 a + 1 else 1000000000)) ?_ ?_ ?_ (I 39) (fun a h => absurd h (Nat.not_lt_zero _))
    · intro k F hk6 hp hi a ha hs
      by_cases he : a = k
      · rw [he] at hs
        unfold arp at hp
        rw [decide_eq_true hs] at hp
        cases hp
      · exact hi a (by omega) hs
    · intro k i F hk6 hp hi hik hv hnext
      have q2 : ((ar t).length ≤ i) = False := eq_false (by omega)
      have e7 : I 7 i = nI k := by rw [cA i hi, hik]
      have bd3 := o9 k hk6
      refine b_X9_priceArcs_38_3_52_p3 ?_
      simp (disch := omega) only [pk_mul, nI_add, ksub, kdv, kd8, kd64, kd2, kd3, km8, km64, kt8, ke8, ke64, kcl, kin, kle, klt, keq, up_s, up_n, up_u, true_and, and_true, false_implies, true_implies, not_false_eq_true, not_true_eq_false, c5, q2, e7, cS]
      refine ⟨fun h => hnext _ (fun a ha hs => ?_), fun h => hnext _ (fun a ha hs => ?_)⟩
      · by_cases he : a = k
        · rw [he, up_s, if_pos h]
        · rw [up_n he]; exact hv a (by omega) hs
      · by_cases he : a = k
        · rw [he, up_s, if_neg h]
        · rw [up_n he]; exact hv a (by omega) hs
    · intro F hv
      refine b_X9_priceArcs_38_3_52_p3 ?_
      have q2 : ((ar t).length ≤ (ar t).length) = True := eq_true (Nat.le_refl _)
      simp (disch := omega) only [pk_mul, nI_add, ksub, kdv, kd8, kd64, kd2, kd3, km8, km64, kt8, ke8, ke64, kcl, kin, kle, klt, keq, up_s, up_n, up_u, true_and, and_true, false_implies, true_implies, not_false_eq_true, not_true_eq_false, c5, q2]
      refine h61 F (fun a => if a % 8 = g then 1000 * t 1 a + 1 else 1000000000) ⟨hv, fun a ha hs => ?_, fun a ha hs hf hr0 => ?_⟩
      · show cC (t 1) D a ≤ (if a % 8 = g then 1000 * t 1 a + 1 else 1000000000) ∧ (if a % 8 = g then 1000 * t 1 a + 1 else 1000000000) ≤ 1000000000
        have bd3 := o9 a ha
        by_cases hgg : a % 8 = g
        · rw [if_pos hgg]
          have h1 := (hD a ha hs).2.1 hgg
          have h2 : cC (t 1) D a = 1000 * t 1 a + 1 := by
            unfold cC
            rw [if_pos (by omega), h1]
            rfl
          omega
        · rw [if_neg hgg]
          exact ⟨(cC_b hD hS ha hs).1, Nat.le_refl _⟩
      · show (if a % 8 = g then 1000 * t 1 a + 1 else 1000000000) = _
        have hgg := rk_0 hD ha hs hf hr0
        have h1 := (hD a ha hs).2.1 hgg
        rw [if_pos hgg]
        unfold cC
        rw [if_pos (by omega), h1]
        rfl
  rw [up_id] at h0
  exact h0
