/-! the class finds first ways -/
section CF
variable {st tc D : Nat → Nat} {g : Nat}
theorem cC_g (hD : isD st tc g D) (hk : stok st tc) {a : Nat} (ha : a < 64) (hs : 0 < st a) (hf : D a < 100000000) : ∃ b l s, 100 * st a + 1 + D a = 1000000 * b + 100 * l + s ∧ b ≤ 27 ∧ l ≤ 252 ∧ s ≤ 28 ∧ cC st D a = 1000000 * b + 1000 * l + s := by
  obtain ⟨b, l, s, e1, e2, e3, e4⟩ := dig28 hD hk ha hs hf
  have h1 : cv (D a) = 1000000 * b + 1000 * l + s := by rw [e1]; exact cv_d (by omega) (by omega)
  have h2 := hk.1 a ha
  have h3 := ((cC_b hD hk ha hs).2.1 hf).2
  exact ⟨b, l + st a, s + 1, by omega, by omega, by omega, by omega, by omega⟩
/-- the class's best so far -/
def cB (st D : Nat → Nat) (x z : Nat) : Nat := if (wB st D x z).1 < 100000000 then cv (wB st D x z).1 else 1000000000
theorem cB_d (hD : isD st tc g D) (hk : stok st tc) {x z : Nat} (hx : x < 8) (hz : z ≤ 8) (hf : (wB st D x z).1 < 100000000) : ∃ b l s, (wB st D x z).1 = 1000000 * b + 100 * l + s ∧ b ≤ 27 ∧ l ≤ 252 ∧ s ≤ 28 ∧ cB st D x z = 1000000 * b + 1000 * l + s ∧ cC st D (8 * x + (wB st D x z).2) = cB st D x z := by
  obtain ⟨w1, w2, w3⟩ := wB_sp st D x z
  obtain ⟨v1, v2, v3⟩ := w3 hf
  obtain ⟨b, l, s, e1, e2, e3, e4, e5⟩ := cC_g hD hk (show 8 * x + (wB st D x z).2 < 64 from by omega) v2 (by omega)
  have h1 : cB st D x z = 1000000 * b + 1000 * l + s := by
    unfold cB
    rw [if_pos hf, v3, e1]
    exact cv_d (by omega) (by omega)
  exact ⟨b, l, s, by omega, e2, e3, e4, h1, by omega⟩
theorem cB_l (hD : isD st tc g D) (hk : stok st tc) {x z : Nat} (hx : x < 8) (hz : z < 8) (hs : 0 < st (8 * x + z)) : (cC st D (8 * x + z) < cB st D x z ↔ 100 * st (8 * x + z) + 1 + D (8 * x + z) < (wB st D x z).1) ∧ cB st D x z ≤ 1000000000 := by
  obtain ⟨w1, w2, w3⟩ := wB_sp st D x z
  have ha : 8 * x + z < 64 := by omega
  obtain ⟨b1, b2, b3, b4⟩ := cC_b hD hk ha hs
  have hB : cB st D x z ≤ 1000000000 := by
    by_cases hf : (wB st D x z).1 < 100000000
    · obtain ⟨b, l, s, e1, e2, e3, e4, e5, _⟩ := cB_d hD hk hx (by omega) hf
      omega
    · unfold cB
      rw [if_neg hf]
      exact Nat.le_refl _
  refine ⟨?_, hB⟩
  by_cases hfa : D (8 * x + z) < 100000000
  · obtain ⟨b, l, s, e1, e2, e3, e4, e5⟩ := cC_g hD hk ha hs hfa
    by_cases hf : (wB st D x z).1 < 100000000
    · obtain ⟨b', l', s', f1, f2, f3, f4, f5, _⟩ := cB_d hD hk hx (by omega) hf
      have h1 := cv_le (b := b') (l := l') (s := s') (b' := b) (l' := l) (s' := s) (by omega) (by omega) (by omega) (by omega)
      rw [e5, f5, e1, f1]
      omega
    · have : cB st D x z = 1000000000 := by unfold cB; rw [if_neg hf]
      omega
  · have := b3 hfa
    omega
end CF
section CF10
variable {e : am_V} {J : Nat → Nat → Int32} {L : Nat → Nat → Int64} {t : tw} {nw D : Nat → Nat} {m g : Nat}
theorem c_cheap1_10 {Q : Int32 → (Nat → Nat → Int32) → Prop} {tc : Nat → Nat} {v3 : Int32} {x : Nat} (hC : CT t J) (hx : x < 8) (h2 : J 38 2 = nI 1) (h40 : J 40 0 = nI x) (hF : ∀ a, a < 64 → 0 < t 1 a → J 39 a = nI (cC (t 1) D a)) (hD : isD (t 1) tc g D) (hS : stok (t 1) tc) (hQ : Q (if (wB (t 1) D x 8).1 < 100000000 then nI (wB (t 1) D x 8).2 else (-1 : Int32)) J) : C_X9_cheapestFrom_38_3_10 e v3 J L Q := by
  obtain ⟨c0, c1, c2, c3, c4, c5, c6, c7, c8, cS, cD, cN, cA, cT, cM, cR, cF, cO, cH, cL⟩ := hC
  have hln : (nb t x).length ≤ 8 := by rw [cn_fl]; exact cn_n _ _
  refine b_X9_cheapestFrom_38_3_10 ?_
  have q0 : 1 - 1 = 0 := rfl
  simp (disch := omega) only [pk_mul, nI_add, ksub, kdv, kd8, kd64, kd2, kd3, km8, km64, kt8, ke8, ke64, kcl, kin, kle, klt, keq, up_s, up_n, up_u, true_and, and_true, false_implies, true_implies, not_false_eq_true, not_true_eq_false, h2, q0, h40]
  refine lp_fl (l := nb t x) rfl (N := 8) (p := nbp t x) (S := Nat × Int32) (T := fun i s => T_X9_cheapestFrom_38_3_10_p23 e v3 (nI x) (nI s.1) s.2 (nI i) J L Q) (fun z s => s.1 = cB (t 1) D x z ∧ s.2 = (if (wB (t 1) D x z).1 < 100000000 then nI (wB (t 1) D x z).2 else (-1 : Int32))) ?_ ?_ ?_ (1000000000, (-1 : Int32)) ⟨rfl, rfl⟩
  · rintro z ⟨v, w⟩ hz hp ⟨i1, i2⟩
    have e3 : wB (t 1) D x (z + 1) = wB (t 1) D x z := by
      show (if 0 < t 1 (8 * x + z) ∧ 100 * t 1 (8 * x + z) + 1 + D (8 * x + z) < (wB (t 1) D x z).1 then (100 * t 1 (8 * x + z) + 1 + D (8 * x + z), z) else wB (t 1) D x z) = _
      rw [if_neg]
      rintro ⟨q1, q2⟩
      unfold nbp at hp
      rw [decide_eq_true q1] at hp
      cases hp
    unfold cB at i1 ⊢
    rw [e3]
    exact ⟨i1, i2⟩
  · rintro z i ⟨v, w⟩ hz hp hi hiz ⟨i1, i2⟩ hnext
    have hs : 0 < t 1 (8 * x + z) := by unfold nbp at hp; simpa using hp
    have e3 : wB (t 1) D x (z + 1) = if 0 < t 1 (8 * x + z) ∧ 100 * t 1 (8 * x + z) + 1 + D (8 * x + z) < (wB (t 1) D x z).1 then (100 * t 1 (8 * x + z) + 1 + D (8 * x + z), z) else wB (t 1) D x z := rfl
    obtain ⟨l1, l2⟩ := cB_l hD hS hx hz hs
    change v = _ at i1
    have e5 := cD x hx
    have e6 := cN x hx i hi
    rw [hiz] at e6
    have e39 := hF (8 * x + z) (by omega) hs
    have bd := (cC_b hD hS (show 8 * x + z < 64 from by omega) hs).1
    have q1 : ((nb t x).length ≤ i) = False := eq_false (by omega)
    have q2 : (2 ≤ 1) = False := eq_false (by decide)
    refine b_X9_cheapestFrom_38_3_10_p23 ?_
    simp (disch := omega) only [pk_mul, nI_add, ksub, kdv, kd8, kd64, kd2, kd3, km8, km64, kt8, ke8, ke64, kcl, kin, kle, klt, keq, up_s, up_n, up_u, true_and, and_true, false_implies, true_implies, not_false_eq_true, not_true_eq_false, h2, e5, e6, q1, q2, e39]
    refine ⟨fun hl => ?_, fun hl => ?_⟩
    · rw [if_neg (by omega)] at e3
      refine hnext (v, w) ⟨?_, ?_⟩
      · show v = cB (t 1) D x (z + 1)
        unfold cB at i1 ⊢
        rw [e3]; exact i1
      · show w = _
        rw [e3]; exact i2
    · rw [if_pos ⟨hs, by omega⟩] at e3
      have hlt : 100 * t 1 (8 * x + z) + 1 + D (8 * x + z) < (wB (t 1) D x z).1 := by omega
      have hb := (wB_sp (t 1) D x z).1
      have hlt2 : (wB (t 1) D x (z + 1)).1 < 100000000 := by
        rw [e3]
        show 100 * t 1 (8 * x + z) + 1 + D (8 * x + z) < _
        omega
      obtain ⟨b', l', s', f1, f2, f3, f4, f5, f6⟩ := cB_d hD hS hx (show z + 1 ≤ 8 from by omega) hlt2
      refine hnext (cC (t 1) D (8 * x + z), nI z) ⟨?_, ?_⟩
      · show cC (t 1) D (8 * x + z) = _
        rw [← f6, e3]
      · show nI z = _
        rw [if_pos hlt2, e3]
  · rintro ⟨v, w⟩ ⟨i1, i2⟩
    have e5 := cD x hx
    have q1 : ((nb t x).length ≤ (nb t x).length) = True := eq_true (Nat.le_refl _)
    refine b_X9_cheapestFrom_38_3_10_p23 ?_
    change w = _ at i2
    simp (disch := omega) only [pk_mul, nI_add, ksub, kdv, kd8, kd64, kd2, kd3, km8, km64, kt8, ke8, ke64, kcl, kin, kle, klt, keq, up_s, up_n, up_u, true_and, and_true, false_implies, true_implies, not_false_eq_true, not_true_eq_false, e5, q1, i2]
    exact hQ
theorem c_cheap2_10 {Q : Int32 → (Nat → Nat → Int32) → Prop} {x y i : Nat} (hC : CT t J) (hr : ∀ k, k < 512 → tB t k = true → J 10 k = nI (nw k)) (hw : ∀ k, k < 512 → nw k ≤ 1000) (hm : m ≤ 2) (hx : x < 8) (hy : y < 8) (h2 : J 38 2 = nI (i + 2)) (hi : i + 2 ≤ 40) (hA : J 40 i = nI x) (hB : J 40 (i + 1) = nI y) (hF : ∀ a, a < 64 → 0 < t 1 a → J 39 a = nI (cC (t 1) D a)) (hD : isD (t 1) (tcm nw m) g D) (hS : stok (t 1) (tcm nw m)) (hs : 0 < t 1 (8 * x + y)) (hf : D (8 * x + y) < 100000000) (hg : y ≠ g) (hQ : Q (nI (nxt (t 1) (tcm nw m) D (8 * x + y))) J) : C_X9_cheapestFrom_38_3_10 e (nI m) J L Q := by
  obtain ⟨c0, c1, c2, c3, c4, c5, c6, c7, c8, cS, cD, cN, cA, cT, cM, cR, cF, cO, cH, cL⟩ := hC
  have hln : (nb t y).length ≤ 8 := by rw [cn_fl]; exact cn_n _ _
  obtain ⟨n1, n2, n3, n4, n5⟩ := nxt_sp hD (show 8 * x + y < 64 from by omega) hs hf (by omega)
  have bda := (cC_b hD hS (show 8 * x + y < 64 from by omega) hs).2.2.2 hf
  refine b_X9_cheapestFrom_38_3_10 ?_
  have q0 : i + 2 - 1 = i + 1 := by omega
  have q9 : i + 2 - 2 = i := by omega
  simp (disch := omega) only [pk_mul, nI_add, ksub, kdv, kd8, kd64, kd2, kd3, km8, km64, kt8, ke8, ke64, kcl, kin, kle, klt, keq, up_s, up_n, up_u, true_and, and_true, false_implies, true_implies, not_false_eq_true, not_true_eq_false, h2, q0, hB]
  refine lp_fl (l := nb t y) rfl (N := 8) (p := nbp t y) (S := Nat × Int32) (T := fun i s => T_X9_cheapestFrom_38_3_10_p23 e (nI m) (nI y) (nI s.1) s.2 (nI i) J L Q) (fun z s => (z ≤ nxt (t 1) (tcm nw m) D (8 * x + y) → cv (D (8 * x + y)) < s.1) ∧ (nxt (t 1) (tcm nw m) D (8 * x + y) < z → s.1 = cv (D (8 * x + y)) ∧ s.2 = nI (nxt (t 1) (tcm nw m) D (8 * x + y))) ∧ s.1 ≤ 1000000000) ?_ ?_ ?_ (1000000000, (-1 : Int32)) ⟨fun _ => by show cv (D (8 * x + y)) < 1000000000; omega, fun h => absurd h (Nat.not_lt_zero _), Nat.le_refl _⟩
  · rintro z ⟨v, w⟩ hz hp ⟨i1, i2, i3⟩
    have hne : z ≠ nxt (t 1) (tcm nw m) D (8 * x + y) := by
      intro h
      rw [← h, show (8 * x + y) % 8 = y from by omega] at n2
      unfold nbp at hp
      rw [decide_eq_true n2] at hp
      cases hp
    exact ⟨fun h => i1 (by omega), fun h => i2 (by omega), i3⟩
  · rintro z j ⟨v, w⟩ hz hp hj hjz ⟨i1, i2, i3⟩ hnext
    have hsz : 0 < t 1 (8 * y + z) := by unfold nbp at hp; simpa using hp
    have e5 := cD y hy
    have e6 := cN y hy j hj
    rw [hjz] at e6
    change v ≤ 1000000000 at i3
    change z ≤ _ → _ < v at i1
    change _ → v = _ ∧ w = _ at i2
    have e39 := hF (8 * y + z) (by omega) hsz
    have bd := (cC_b hD hS (show 8 * y + z < 64 from by omega) hsz).1
    have hk5 : 64 * x + 8 * y + z < 512 := by omega
    have hT : tB t (64 * x + 8 * y + z) = true := by
      rw [tB_i, show (64 * x + 8 * y + z) / 8 = 8 * x + y from by omega, show (64 * x + 8 * y + z) % 64 = 8 * y + z from by omega]
      exact ⟨hs, hsz⟩
    have er := hr (64 * x + 8 * y + z) hk5 hT
    have bd4 := hw (64 * x + 8 * y + z) hk5
    have q1 : ((nb t y).length ≤ j) = False := eq_false (by omega)
    have q2 : (2 ≤ i + 2) = True := eq_true (by omega)
    have q4 : (64 * x + 8 * y + z) % 64 = 8 * y + z := by omega
    have hct := fun htc => cC_t hD hS (a := 8 * x + y) (z := z) (by omega) hs hz (by rw [show (8 * x + y) % 8 = y from by omega]; exact hsz) htc
    rw [show (8 * x + y) % 8 = y from by omega, show 8 * (8 * x + y) + z = 64 * x + 8 * y + z from by omega] at hct
    have hstep : ∀ p, (cv (D (8 * x + y)) ≤ p ∧ (p = cv (D (8 * x + y)) ↔ nxp (t 1) (tcm nw m) D (8 * x + y) z = true)) → (v ≤ p → T_X9_cheapestFrom_38_3_10_p23 e (nI m) (nI y) (nI v) w (nI (j + 1)) J L Q) ∧ (¬ v ≤ p → T_X9_cheapestFrom_38_3_10_p23 e (nI m) (nI y) (nI p) (nI z) (nI (j + 1)) J L Q) := by
      rintro p ⟨p1, p2⟩
      have hzx : nxp (t 1) (tcm nw m) D (8 * x + y) (nxt (t 1) (tcm nw m) D (8 * x + y)) = true := by
        unfold nxp
        rw [decide_eq_true n2, decide_eq_true (show D (8 * ((8 * x + y) % 8) + nxt (t 1) (tcm nw m) D (8 * x + y)) < 100000000 from by omega), decide_eq_true n4]; rfl
      refine ⟨fun hl => hnext (v, w) ⟨fun h => i1 (by omega), fun h => ?_, i3⟩, fun hl => hnext (p, nI z) ⟨fun h => ?_, fun h => ?_, by show p ≤ _; omega⟩⟩
      · by_cases he : nxt (t 1) (tcm nw m) D (8 * x + y) < z
        · exact i2 he
        · have hez : z = nxt (t 1) (tcm nw m) D (8 * x + y) := by omega
          rw [← hez] at hzx
          have h1 := p2.mpr hzx
          have h2 := i1 (by omega)
          omega
      · show _ < p
        have h1 := n5 z (by omega)
        have h2 : p ≠ cv (D (8 * x + y)) := fun h => by rw [p2.mp h] at h1; cases h1
        omega
      · by_cases he : nxt (t 1) (tcm nw m) D (8 * x + y) < z
        · have := (i2 he).1
          omega
        · have hez : z = nxt (t 1) (tcm nw m) D (8 * x + y) := by omega
          rw [← hez] at hzx
          refine ⟨p2.mpr hzx, ?_⟩
          show nI z = _
          rw [hez]
    refine b_X9_cheapestFrom_38_3_10_p23 ?_
    simp (disch := omega) only [pk_mul, nI_add, ksub, kdv, kd8, kd64, kd2, kd3, km8, km64, kt8, ke8, ke64, kcl, kin, kle, klt, keq, up_s, up_n, up_u, true_and, and_true, false_implies, true_implies, not_false_eq_true, not_true_eq_false, h2, hA, e5, e6, q1, q2, q9, q4, e39, er]
    refine ⟨fun h0 => hstep _ ?_, fun h0 => ⟨fun h2 => hstep _ ?_, fun h2 => ⟨fun h1 => hstep _ ?_, fun h1 => hstep _ ?_⟩⟩⟩
    · have htc : tcm nw m (64 * x + 8 * y + z) = 0 := by unfold tcm; rw [if_pos (Or.inl h0)]
      have h3 := (hct (by omega)).2 hf hg
      rw [htc, Nat.zero_add] at h3
      exact h3
    · have htc : tcm nw m (64 * x + 8 * y + z) = 0 := by unfold tcm; rw [if_pos (Or.inr h2)]
      have h3 := (hct (by omega)).2 hf hg
      rw [htc, Nat.zero_add] at h3
      exact h3
    · have htc : tcm nw m (64 * x + 8 * y + z) = 1000000 := by unfold tcm; rw [if_neg (by omega), if_pos h1]
      have h3 := (hct (by omega)).2 hf hg
      rw [htc] at h3
      exact h3
    · have htc : tcm nw m (64 * x + 8 * y + z) = 100000000 := by unfold tcm; rw [if_neg (by omega), if_neg h1]
      refine ⟨by omega, fun h => by omega, fun h => ?_⟩
      unfold nxp at h
      rw [Bool.and_eq_true, Bool.and_eq_true, decide_eq_true_eq, decide_eq_true_eq, decide_eq_true_eq, sC_xy hy, htc] at h
      omega
  · rintro ⟨v, w⟩ ⟨i1, i2, i3⟩
    have e5 := cD y hy
    have q1 : ((nb t y).length ≤ (nb t y).length) = True := eq_true (Nat.le_refl _)
    have e7 := (i2 (by omega)).2
    change w = _ at e7
    refine b_X9_cheapestFrom_38_3_10_p23 ?_
    simp (disch := omega) only [pk_mul, nI_add, ksub, kdv, kd8, kd64, kd2, kd3, km8, km64, kt8, ke8, ke64, kcl, kin, kle, klt, keq, up_s, up_n, up_u, true_and, and_true, false_implies, true_implies, not_false_eq_true, not_true_eq_false, e5, q1, e7]
    exact hQ
theorem c_find_10 {I : Nat → Nat → Int32} {Q : Int32 → (Nat → Nat → Int32) → Prop} {x : Nat} (hC : CT t I) (hk : tok t) (hr : ∀ k, k < 512 → tB t k = true → I 10 k = nI (nw k)) (hw : ∀ k, k < 512 → nw k ≤ 1000) (hm : m ≤ 2) (hx : x < 8) (hg : g < 8)
    (h1 : ∀ J, wC (t 1) (tcm nw m) g x < 100000000 → fr [38, 39, 40] [] I J → J 38 2 = nI (wL (t 1) (tcm nw m) g x) → J 38 3 = nI (cv (wC (t 1) (tcm nw m) g x)) → (∀ i, i < wL (t 1) (tcm nw m) g x → J 40 i = nI (wR (t 1) (tcm nw m) g x i)) → Q (nI 1) J)
    (h0 : ∀ J, ¬ wC (t 1) (tcm nw m) g x < 100000000 → fr [38, 39, 40] [] I J → Q (nI 0) J) : C_X9_find_38_3_10 e (nI x) (nI g) (nI m) I L Q := by
  have hS := tok_st hk nw m
  refine b_X9_find_38_3_10 ?_
  generalize hJ0 : va_up (va_up (va_up I 40 (va_up (I 40) 0 (nI x))) 38 (va_up (I 38) 2 (nI 1))) 38 (va_up (va_up (I 38) 2 (nI 1)) 3 (nI 0)) = J0
  have f0 : fr [38, 39, 40] [] I J0 := by
    rw [← hJ0]
    exact fr_up (fr_up (fr_up (fr_refl _ _ _) rfl) rfl) rfl
  have j40 : J0 40 0 = nI x := by rw [← hJ0]; rfl
  have j2 : J0 38 2 = nI 1 := by rw [← hJ0]; rfl
  have j3 : J0 38 3 = nI 0 := by rw [← hJ0]; rfl
  refine ⟨fun hxg => ?_, fun hxg => ?_⟩
  · have hxg2 : x = g := (nI_eq (by omega) (by omega)).mp hxg
    have e1 : wC (t 1) (tcm nw m) g x = 0 := if_pos hxg2
    have e2 : wL (t 1) (tcm nw m) g x = 1 := if_pos hxg2
    have h5 := h1 J0
    rw [e1, e2] at h5
    refine h5 (by decide) f0 j2 j3 (fun i hi => ?_)
    have : i = 0 := by omega
    rw [this]
    exact j40
  · have hxg2 : x ≠ g := fun h => hxg (by rw [h])
    have e1 : wC (t 1) (tcm nw m) g x = (wB (t 1) (wD (t 1) (tcm nw m) g) x 8).1 := if_neg hxg2
    have e2 : wL (t 1) (tcm nw m) g x = wS (t 1) (tcm nw m) (wD (t 1) (tcm nw m) g) g (8 * x + (wB (t 1) (wD (t 1) (tcm nw m) g) x 8).2) + 2 := if_neg hxg2
    rw [e1, e2] at h1
    rw [e1] at h0
    refine c_price_10 (fr_CT f0 hC rfl) hk (fun k hk5 hp => by rw [f0.1 10 (by decide) (by decide)]; exact hr k hk5 hp) hw hm hg (fun F' hF' => ?_)
    have hD := wD_is (t 1) (tcm nw m) g
    have hA0 := fun i => wR_arc (st := t 1) (tc := tcm nw m) (g := g) (x := x) (i := i) hS hx
    have hRs : ∀ i, wR (t 1) (tcm nw m) g x (i + 1) = pA (t 1) (tcm nw m) (wD (t 1) (tcm nw m) g) (8 * x + (wB (t 1) (wD (t 1) (tcm nw m) g) x 8).2) i % 8 := fun i => rfl
    have hR0 : wR (t 1) (tcm nw m) g x 0 = x := rfl
    generalize wD (t 1) (tcm nw m) g = D at hF' h1 h0 e1 e2 hD hA0 hRs
    generalize wR (t 1) (tcm nw m) g x = R at h1 hA0 hRs hR0
    obtain ⟨w1, w2, w3⟩ := wB_sp (t 1) D x 8
    have f1 : fr [38, 39, 40] [] I (va_up J0 39 F') := fr_up f0 rfl
    have hCt : ∀ J, fr [38, 39, 40] [] I J → CT t J := fun J f => fr_CT f hC rfl
    have hrt : ∀ J, fr [38, 39, 40] [] I J → ∀ k, k < 512 → tB t k = true → J 10 k = nI (nw k) := fun J f k hk5 hp => by rw [f.1 10 (by decide) (by decide)]; exact hr k hk5 hp
    refine b_X9_find_38_3_10_p38 ⟨fun h => absurd h (by decide), fun _ => ?_⟩
    refine c_cheap1_10 (g := g) (D := D) (tc := tcm nw m) (hCt _ f1) hx j2 j40 (fun a ha hs => hF' a ha hs) hD hS ?_
    by_cases hf : (wB (t 1) D x 8).1 < 100000000
    · rw [if_pos hf]
      obtain ⟨v1, v2, v3⟩ := w3 hf
      have hfa : D (8 * x + (wB (t 1) D x 8).2) < 100000000 := by omega
      have ha0 : 8 * x + (wB (t 1) D x 8).2 < 64 := by omega
      obtain ⟨s1, s2, s3⟩ := wS_sp hD hS ha0 v2 hfa
      have hA := fun i => hA0 i hf
      obtain ⟨b', l', s', g1, g2, g3, g4, g5, g6⟩ := cB_d hD hS hx (Nat.le_refl 8) hf
      have hcv : cv (wB (t 1) D x 8).1 = cC (t 1) D (8 * x + (wB (t 1) D x 8).2) := by
        rw [g6]
        unfold cB
        rw [if_pos hf]
      have e39 : va_up J0 39 F' 39 (8 * x + (wB (t 1) D x 8).2) = nI (cC (t 1) D (8 * x + (wB (t 1) D x 8).2)) := hF' _ ha0 v2
      have hstep : ∀ j J, j < wS (t 1) (tcm nw m) D g (8 * x + (wB (t 1) D x 8).2) → (fr [38, 39, 40] [] I J ∧ (∀ a, a < 64 → 0 < t 1 a → J 39 a = nI (cC (t 1) D a)) ∧ J 38 2 = nI (j + 2) ∧ J 38 3 = nI (cv (wB (t 1) D x 8).1) ∧ ∀ i, i < j + 2 → J 40 i = nI (R i)) → (∀ J', j + 1 < wS (t 1) (tcm nw m) D g (8 * x + (wB (t 1) D x 8).2) → (fr [38, 39, 40] [] I J' ∧ (∀ a, a < 64 → 0 < t 1 a → J' 39 a = nI (cC (t 1) D a)) ∧ J' 38 2 = nI (j + 1 + 2) ∧ J' 38 3 = nI (cv (wB (t 1) D x 8).1) ∧ ∀ i, i < j + 1 + 2 → J' 40 i = nI (R i)) → T_X9_find_38_3_10_p38 e (nI x) (nI g) (nI m) (nI (j + 1 + 2)) J' L Q) → T_X9_find_38_3_10_p38 e (nI x) (nI g) (nI m) (nI (j + 2)) J L Q := by
        rintro j J hj ⟨k1, k2, k3, k4, k5⟩ hnext
        obtain ⟨a1, a2, a3⟩ := hA j (by omega)
        obtain ⟨p1, p2, p3, p4, p5⟩ := pA_sp hD ha0 v2 hfa j (fun i hi => s3 i (by omega))
        have n1 := (nxt_sp hD p1 p2 p3 (s3 j hj)).1
        have r3 : R (j + 2) = nxt (t 1) (tcm nw m) D (8 * R j + R (j + 1)) := by
          rw [hRs (j + 1), a1]
          show (8 * (pA (t 1) (tcm nw m) D (8 * x + (wB (t 1) D x 8).2) j % 8) + nxt (t 1) (tcm nw m) D (pA (t 1) (tcm nw m) D (8 * x + (wB (t 1) D x 8).2) j)) % 8 = _
          omega
        have hfin : R (j + 2) = g ↔ j + 1 = wS (t 1) (tcm nw m) D g (8 * x + (wB (t 1) D x 8).2) := by
          rw [hRs (j + 1)]
          constructor
          · intro h
            by_cases hlt : j + 1 < wS (t 1) (tcm nw m) D g (8 * x + (wB (t 1) D x 8).2)
            · exact absurd h (s3 _ hlt)
            · omega
          · intro h
            rw [h]; exact s2
        refine b_X9_find_38_3_10_p38 ?_
        have q1 : (40 ≤ j + 2) = False := eq_false (by omega)
        have q2 : (j + 2 = 1) = False := eq_false (by omega)
        rw [a1] at r3
        have n3 : R (j + 2) < 8 := by rw [r3]; exact n1
        simp (disch := omega) only [pk_mul, nI_add, ksub, kdv, kd8, kd64, kd2, kd3, km8, km64, kt8, ke8, ke64, kcl, kin, kle, klt, keq, up_s, up_n, up_u, true_and, and_true, false_implies, true_implies, not_false_eq_true, not_true_eq_false, q1]
        refine c_cheap2_10 (g := g) (D := D) (i := j) (hCt _ k1) (hrt _ k1) hw hm a2 a3 k3 (by omega) (k5 j (by omega)) (k5 (j + 1) (by omega)) k2 hD hS (by rw [a1]; exact p2) (by rw [a1]; exact p3) (by rw [hRs j]; exact s3 j hj) ?_
        rw [a1, ← r3]
        have q5 := km1 (n := R (j + 2)) (by omega)
        simp (disch := omega) only [pk_mul, nI_add, ksub, kdv, kd8, kd64, kd2, kd3, km8, km64, kt8, ke8, ke64, kcl, kin, kle, klt, keq, up_s, up_n, up_u, true_and, and_true, false_implies, true_implies, not_false_eq_true, not_true_eq_false, q2, q5]
        have hrow : ∀ i, i < j + 2 + 1 → va_up (J 40) (j + 2) (nI (R (j + 2))) i = nI (R i) := by
          intro i hi
          by_cases he : i = j + 2
          · rw [he, up_s]
          · rw [up_n he]; exact k5 i (by omega)
        refine ⟨fun hl => ?_, fun hl => ?_⟩
        · have h7 := hfin.mp hl
          rw [show wS (t 1) (tcm nw m) D g (8 * x + (wB (t 1) D x 8).2) + 2 = j + 2 + 1 from by omega] at h1
          exact h1 _ hf (fr_up (fr_up k1 rfl) rfl) rfl k4 hrow
        · have h7 : j + 1 < wS (t 1) (tcm nw m) D g (8 * x + (wB (t 1) D x 8).2) := by
            have := fun h => hl (hfin.mpr h)
            omega
          have h8 := hnext (va_up (va_up J 40 (va_up (J 40) (j + 2) (nI (R (j + 2))))) 38 (va_up (J 38) 2 (nI (j + 2 + 1)))) h7 ⟨fr_up (fr_up k1 rfl) rfl, k2, by rw [show j + 1 + 2 = j + 2 + 1 from by omega]; rfl, k4, by rw [show j + 1 + 2 = j + 2 + 1 from by omega]; exact hrow⟩
          rw [show j + 1 + 2 = j + 2 + 1 from by omega] at h8
          exact h8
      have hloop : ∀ d j J, j + d + 1 = wS (t 1) (tcm nw m) D g (8 * x + (wB (t 1) D x 8).2) → (fr [38, 39, 40] [] I J ∧ (∀ a, a < 64 → 0 < t 1 a → J 39 a = nI (cC (t 1) D a)) ∧ J 38 2 = nI (j + 2) ∧ J 38 3 = nI (cv (wB (t 1) D x 8).1) ∧ ∀ i, i < j + 2 → J 40 i = nI (R i)) → T_X9_find_38_3_10_p38 e (nI x) (nI g) (nI m) (nI (j + 2)) J L Q := by
        intro d
        induction d with
        | zero =>
          intro j J hj hi
          exact hstep j J (by omega) hi (fun J' h => by omega)
        | succ d ih =>
          intro j J hj hi
          exact hstep j J (by omega) hi (fun J' h hi' => ih (j + 1) J' (by omega) hi')
      have z8 : (wB (t 1) D x 8).2 < 8 := v1
      have q5 := km1 (n := (wB (t 1) D x 8).2) (by omega)
      have hR1 : R 1 = (wB (t 1) D x 8).2 := by
        rw [hRs 0]
        show (8 * x + (wB (t 1) D x 8).2) % 8 = _
        omega
      have q6 : (1 : Nat) = 1 := rfl
      have q7 : (1 = 1) = True := eq_true rfl
      have hrow : ∀ i, i < 2 → va_up (va_up J0 39 F' 40) 1 (nI (wB (t 1) D x 8).2) i = nI (R i) := by
        intro i hi
        by_cases he : i = 1
        · rw [he, up_s, hR1]
        · have : i = 0 := by omega
          rw [this, hR0]
          exact j40
      simp (disch := omega) only [pk_mul, nI_add, ksub, kdv, kd8, kd64, kd2, kd3, km8, km64, kt8, ke8, ke64, kcl, kin, kle, klt, keq, up_s, up_n, up_u, true_and, and_true, false_implies, true_implies, not_false_eq_true, not_true_eq_false, q5, q7]
      have hfin : (wB (t 1) D x 8).2 = g ↔ wS (t 1) (tcm nw m) D g (8 * x + (wB (t 1) D x 8).2) = 0 := by
        constructor
        · intro h
          by_cases hlt : 0 < wS (t 1) (tcm nw m) D g (8 * x + (wB (t 1) D x 8).2)
          · have h9 := s3 0 hlt
            exact absurd (show (8 * x + (wB (t 1) D x 8).2) % 8 = g from by omega) h9
          · omega
        · intro h
          rw [h] at s2
          have : (8 * x + (wB (t 1) D x 8).2) % 8 = g := s2
          omega
      rw [hF' _ ha0 v2, ← hcv]
      refine ⟨fun hl => ?_, fun hl => ?_⟩
      · have h7 := hfin.mp hl
        rw [h7] at h1
        exact h1 _ hf (fr_up (fr_up (fr_up f1 rfl) rfl) rfl) rfl rfl hrow
      · have h7 : 0 < wS (t 1) (tcm nw m) D g (8 * x + (wB (t 1) D x 8).2) := by
          have := fun h => hl (hfin.mpr h)
          omega
        exact hloop (wS (t 1) (tcm nw m) D g (8 * x + (wB (t 1) D x 8).2) - 1) 0 _ (by omega) ⟨fr_up (fr_up (fr_up f1 rfl) rfl) rfl, fun a ha hs => hF' a ha hs, rfl, rfl, hrow⟩
    · rw [if_neg hf]
      have q7 : ((-1 : Int32) = (-1 : Int32)) = True := eq_true rfl
      simp (disch := omega) only [pk_mul, nI_add, ksub, kdv, kd8, kd64, kd2, kd3, km8, km64, kt8, ke8, ke64, kcl, kin, kle, klt, keq, up_s, up_n, up_u, true_and, and_true, false_implies, true_implies, not_false_eq_true, not_true_eq_false, q7]
      exact h0 _ hf (fr_up f1 rfl)
end CF10
section CF2
variable {e : am_V} {J : Nat → Nat → Int32} {L : Nat → Nat → Int64} {t : tw} {nw D : Nat → Nat} {m g : Nat}
theorem c_cheap1_2 {Q : Int32 → (Nat → Nat → Int32) → Prop} {tc : Nat → Nat} {v3 : Int32} {x : Nat} (hC : CT t J) (hx : x < 8) (h2 : J 38 2 = nI 1) (h40 : J 40 0 = nI x) (hF : ∀ a, a < 64 → 0 < t 1 a → J 39 a = nI (cC (t 1) D a)) (hD : isD (t 1) tc g D) (hS : stok (t 1) tc) (hQ : Q (if (wB (t 1) D x 8).1 < 100000000 then nI (wB (t 1) D x 8).2 else (-1 : Int32)) J) : C_X9_cheapestFrom_38_3_2 e v3 J L Q := by
  obtain ⟨c0, c1, c2, c3, c4, c5, c6, c7, c8, cS, cD, cN, cA, cT, cM, cR, cF, cO, cH, cL⟩ := hC
  have hln : (nb t x).length ≤ 8 := by rw [cn_fl]; exact cn_n _ _
  refine b_X9_cheapestFrom_38_3_2 ?_
  have q0 : 1 - 1 = 0 := rfl
  simp (disch := omega) only [pk_mul, nI_add, ksub, kdv, kd8, kd64, kd2, kd3, km8, km64, kt8, ke8, ke64, kcl, kin, kle, klt, keq, up_s, up_n, up_u, true_and, and_true, false_implies, true_implies, not_false_eq_true, not_true_eq_false, h2, q0, h40]
  refine lp_fl (l := nb t x) rfl (N := 8) (p := nbp t x) (S := Nat × Int32) (T := fun i s => T_X9_cheapestFrom_38_3_2_p23 e v3 (nI x) (nI s.1) s.2 (nI i) J L Q) (fun z s => s.1 = cB (t 1) D x z ∧ s.2 = (if (wB (t 1) D x z).1 < 100000000 then nI (wB (t 1) D x z).2 else (-1 : Int32))) ?_ ?_ ?_ (1000000000, (-1 : Int32)) ⟨rfl, rfl⟩
  · rintro z ⟨v, w⟩ hz hp ⟨i1, i2⟩
    have e3 : wB (t 1) D x (z + 1) = wB (t 1) D x z := by
      show (if 0 < t 1 (8 * x + z) ∧ 100 * t 1 (8 * x + z) + 1 + D (8 * x + z) < (wB (t 1) D x z).1 then (100 * t 1 (8 * x + z) + 1 + D (8 * x + z), z) else wB (t 1) D x z) = _
      rw [if_neg]
      rintro ⟨q1, q2⟩
      unfold nbp at hp
      rw [decide_eq_true q1] at hp
      cases hp
    unfold cB at i1 ⊢
    rw [e3]
    exact ⟨i1, i2⟩
  · rintro z i ⟨v, w⟩ hz hp hi hiz ⟨i1, i2⟩ hnext
    have hs : 0 < t 1 (8 * x + z) := by unfold nbp at hp; simpa using hp
    have e3 : wB (t 1) D x (z + 1) = if 0 < t 1 (8 * x + z) ∧ 100 * t 1 (8 * x + z) + 1 + D (8 * x + z) < (wB (t 1) D x z).1 then (100 * t 1 (8 * x + z) + 1 + D (8 * x + z), z) else wB (t 1) D x z := rfl
    obtain ⟨l1, l2⟩ := cB_l hD hS hx hz hs
    change v = _ at i1
    have e5 := cD x hx
    have e6 := cN x hx i hi
    rw [hiz] at e6
    have e39 := hF (8 * x + z) (by omega) hs
    have bd := (cC_b hD hS (show 8 * x + z < 64 from by omega) hs).1
    have q1 : ((nb t x).length ≤ i) = False := eq_false (by omega)
    have q2 : (2 ≤ 1) = False := eq_false (by decide)
    refine b_X9_cheapestFrom_38_3_2_p23 ?_
    simp (disch := omega) only [pk_mul, nI_add, ksub, kdv, kd8, kd64, kd2, kd3, km8, km64, kt8, ke8, ke64, kcl, kin, kle, klt, keq, up_s, up_n, up_u, true_and, and_true, false_implies, true_implies, not_false_eq_true, not_true_eq_false, h2, e5, e6, q1, q2, e39]
    refine ⟨fun hl => ?_, fun hl => ?_⟩
    · rw [if_neg (by omega)] at e3
      refine hnext (v, w) ⟨?_, ?_⟩
      · show v = cB (t 1) D x (z + 1)
        unfold cB at i1 ⊢
        rw [e3]; exact i1
      · show w = _
        rw [e3]; exact i2
    · rw [if_pos ⟨hs, by omega⟩] at e3
      have hlt : 100 * t 1 (8 * x + z) + 1 + D (8 * x + z) < (wB (t 1) D x z).1 := by omega
      have hb := (wB_sp (t 1) D x z).1
      have hlt2 : (wB (t 1) D x (z + 1)).1 < 100000000 := by
        rw [e3]
        show 100 * t 1 (8 * x + z) + 1 + D (8 * x + z) < _
        omega
      obtain ⟨b', l', s', f1, f2, f3, f4, f5, f6⟩ := cB_d hD hS hx (show z + 1 ≤ 8 from by omega) hlt2
      refine hnext (cC (t 1) D (8 * x + z), nI z) ⟨?_, ?_⟩
      · show cC (t 1) D (8 * x + z) = _
        rw [← f6, e3]
      · show nI z = _
        rw [if_pos hlt2, e3]
  · rintro ⟨v, w⟩ ⟨i1, i2⟩
    have e5 := cD x hx
    have q1 : ((nb t x).length ≤ (nb t x).length) = True := eq_true (Nat.le_refl _)
    refine b_X9_cheapestFrom_38_3_2_p23 ?_
    change w = _ at i2
    simp (disch := omega) only [pk_mul, nI_add, ksub, kdv, kd8, kd64, kd2, kd3, km8, km64, kt8, ke8, ke64, kcl, kin, kle, klt, keq, up_s, up_n, up_u, true_and, and_true, false_implies, true_implies, not_false_eq_true, not_true_eq_false, e5, q1, i2]
    exact hQ
theorem c_cheap2_2 {Q : Int32 → (Nat → Nat → Int32) → Prop} {x y i : Nat} (hC : CT t J) (hr : ∀ k, k < 512 → tB t k = true → J 2 k = nI (nw k)) (hw : ∀ k, k < 512 → nw k ≤ 1000) (hm : m ≤ 2) (hx : x < 8) (hy : y < 8) (h2 : J 38 2 = nI (i + 2)) (hi : i + 2 ≤ 40) (hA : J 40 i = nI x) (hB : J 40 (i + 1) = nI y) (hF : ∀ a, a < 64 → 0 < t 1 a → J 39 a = nI (cC (t 1) D a)) (hD : isD (t 1) (tcm nw m) g D) (hS : stok (t 1) (tcm nw m)) (hs : 0 < t 1 (8 * x + y)) (hf : D (8 * x + y) < 100000000) (hg : y ≠ g) (hQ : Q (nI (nxt (t 1) (tcm nw m) D (8 * x + y))) J) : C_X9_cheapestFrom_38_3_2 e (nI m) J L Q := by
  obtain ⟨c0, c1, c2, c3, c4, c5, c6, c7, c8, cS, cD, cN, cA, cT, cM, cR, cF, cO, cH, cL⟩ := hC
  have hln : (nb t y).length ≤ 8 := by rw [cn_fl]; exact cn_n _ _
  obtain ⟨n1, n2, n3, n4, n5⟩ := nxt_sp hD (show 8 * x + y < 64 from by omega) hs hf (by omega)
  have bda := (cC_b hD hS (show 8 * x + y < 64 from by omega) hs).2.2.2 hf
  refine b_X9_cheapestFrom_38_3_2 ?_
  have q0 : i + 2 - 1 = i + 1 := by omega
  have q9 : i + 2 - 2 = i := by omega
  simp (disch := omega) only [pk_mul, nI_add, ksub, kdv, kd8, kd64, kd2, kd3, km8, km64, kt8, ke8, ke64, kcl, kin, kle, klt, keq, up_s, up_n, up_u, true_and, and_true, false_implies, true_implies, not_false_eq_true, not_true_eq_false, h2, q0, hB]
  refine lp_fl (l := nb t y) rfl (N := 8) (p := nbp t y) (S := Nat × Int32) (T := fun i s => T_X9_cheapestFrom_38_3_2_p23 e (nI m) (nI y) (nI s.1) s.2 (nI i) J L Q) (fun z s => (z ≤ nxt (t 1) (tcm nw m) D (8 * x + y) → cv (D (8 * x + y)) < s.1) ∧ (nxt (t 1) (tcm nw m) D (8 * x + y) < z → s.1 = cv (D (8 * x + y)) ∧ s.2 = nI (nxt (t 1) (tcm nw m) D (8 * x + y))) ∧ s.1 ≤ 1000000000) ?_ ?_ ?_ (1000000000, (-1 : Int32)) ⟨fun _ => by show cv (D (8 * x + y)) < 1000000000; omega, fun h => absurd h (Nat.not_lt_zero _), Nat.le_refl _⟩
  · rintro z ⟨v, w⟩ hz hp ⟨i1, i2, i3⟩
    have hne : z ≠ nxt (t 1) (tcm nw m) D (8 * x + y) := by
      intro h
      rw [← h, show (8 * x + y) % 8 = y from by omega] at n2
      unfold nbp at hp
      rw [decide_eq_true n2] at hp
      cases hp
    exact ⟨fun h => i1 (by omega), fun h => i2 (by omega), i3⟩
  · rintro z j ⟨v, w⟩ hz hp hj hjz ⟨i1, i2, i3⟩ hnext
    have hsz : 0 < t 1 (8 * y + z) := by unfold nbp at hp; simpa using hp
    have e5 := cD y hy
    have e6 := cN y hy j hj
    rw [hjz] at e6
    change v ≤ 1000000000 at i3
    change z ≤ _ → _ < v at i1
    change _ → v = _ ∧ w = _ at i2
    have e39 := hF (8 * y + z) (by omega) hsz
    have bd := (cC_b hD hS (show 8 * y + z < 64 from by omega) hsz).1
    have hk5 : 64 * x + 8 * y + z < 512 := by omega
    have hT : tB t (64 * x + 8 * y + z) = true := by
      rw [tB_i, show (64 * x + 8 * y + z) / 8 = 8 * x + y from by omega, show (64 * x + 8 * y + z) % 64 = 8 * y + z from by omega]
      exact ⟨hs, hsz⟩
    have er := hr (64 * x + 8 * y + z) hk5 hT
    have bd4 := hw (64 * x + 8 * y + z) hk5
    have q1 : ((nb t y).length ≤ j) = False := eq_false (by omega)
    have q2 : (2 ≤ i + 2) = True := eq_true (by omega)
    have q4 : (64 * x + 8 * y + z) % 64 = 8 * y + z := by omega
    have hct := fun htc => cC_t hD hS (a := 8 * x + y) (z := z) (by omega) hs hz (by rw [show (8 * x + y) % 8 = y from by omega]; exact hsz) htc
    rw [show (8 * x + y) % 8 = y from by omega, show 8 * (8 * x + y) + z = 64 * x + 8 * y + z from by omega] at hct
    have hstep : ∀ p, (cv (D (8 * x + y)) ≤ p ∧ (p = cv (D (8 * x + y)) ↔ nxp (t 1) (tcm nw m) D (8 * x + y) z = true)) → (v ≤ p → T_X9_cheapestFrom_38_3_2_p23 e (nI m) (nI y) (nI v) w (nI (j + 1)) J L Q) ∧ (¬ v ≤ p → T_X9_cheapestFrom_38_3_2_p23 e (nI m) (nI y) (nI p) (nI z) (nI (j + 1)) J L Q) := by
      rintro p ⟨p1, p2⟩
      have hzx : nxp (t 1) (tcm nw m) D (8 * x + y) (nxt (t 1) (tcm nw m) D (8 * x + y)) = true := by
        unfold nxp
        rw [decide_eq_true n2, decide_eq_true (show D (8 * ((8 * x + y) % 8) + nxt (t 1) (tcm nw m) D (8 * x + y)) < 100000000 from by omega), decide_eq_true n4]; rfl
      refine ⟨fun hl => hnext (v, w) ⟨fun h => i1 (by omega), fun h => ?_, i3⟩, fun hl => hnext (p, nI z) ⟨fun h => ?_, fun h => ?_, by show p ≤ _; omega⟩⟩
      · by_cases he : nxt (t 1) (tcm nw m) D (8 * x + y) < z
        · exact i2 he
        · have hez : z = nxt (t 1) (tcm nw m) D (8 * x + y) := by omega
          rw [← hez] at hzx
          have h1 := p2.mpr hzx
          have h2 := i1 (by omega)
          omega
      · show _ < p
        have h1 := n5 z (by omega)
        have h2 : p ≠ cv (D (8 * x + y)) := fun h => by rw [p2.mp h] at h1; cases h1
        omega
      · by_cases he : nxt (t 1) (tcm nw m) D (8 * x + y) < z
        · have := (i2 he).1
          omega
        · have hez : z = nxt (t 1) (tcm nw m) D (8 * x + y) := by omega
          rw [← hez] at hzx
          refine ⟨p2.mpr hzx, ?_⟩
          show nI z = _
          rw [hez]
    refine b_X9_cheapestFrom_38_3_2_p23 ?_
    simp (disch := omega) only [pk_mul, nI_add, ksub, kdv, kd8, kd64, kd2, kd3, km8, km64, kt8, ke8, ke64, kcl, kin, kle, klt, keq, up_s, up_n, up_u, true_and, and_true, false_implies, true_implies, not_false_eq_true, not_true_eq_false, h2, hA, e5, e6, q1, q2, q9, q4, e39, er]
    refine ⟨fun h0 => hstep _ ?_, fun h0 => ⟨fun h2 => hstep _ ?_, fun h2 => ⟨fun h1 => hstep _ ?_, fun h1 => hstep _ ?_⟩⟩⟩
    · have htc : tcm nw m (64 * x + 8 * y + z) = 0 := by unfold tcm; rw [if_pos (Or.inl h0)]
      have h3 := (hct (by omega)).2 hf hg
      rw [htc, Nat.zero_add] at h3
      exact h3
    · have htc : tcm nw m (64 * x + 8 * y + z) = 0 := by unfold tcm; rw [if_pos (Or.inr h2)]
      have h3 := (hct (by omega)).2 hf hg
      rw [htc, Nat.zero_add] at h3
      exact h3
    · have htc : tcm nw m (64 * x + 8 * y + z) = 1000000 := by unfold tcm; rw [if_neg (by omega), if_pos h1]
      have h3 := (hct (by omega)).2 hf hg
      rw [htc] at h3
      exact h3
    · have htc : tcm nw m (64 * x + 8 * y + z) = 100000000 := by unfold tcm; rw [if_neg (by omega), if_neg h1]
      refine ⟨by omega, fun h => by omega, fun h => ?_⟩
      unfold nxp at h
      rw [Bool.and_eq_true, Bool.and_eq_true, decide_eq_true_eq, decide_eq_true_eq, decide_eq_true_eq, sC_xy hy, htc] at h
      omega
  · rintro ⟨v, w⟩ ⟨i1, i2, i3⟩
    have e5 := cD y hy
    have q1 : ((nb t y).length ≤ (nb t y).length) = True := eq_true (Nat.le_refl _)
    have e7 := (i2 (by omega)).2
    change w = _ at e7
    refine b_X9_cheapestFrom_38_3_2_p23 ?_
    simp (disch := omega) only [pk_mul, nI_add, ksub, kdv, kd8, kd64, kd2, kd3, km8, km64, kt8, ke8, ke64, kcl, kin, kle, klt, keq, up_s, up_n, up_u, true_and, and_true, false_implies, true_implies, not_false_eq_true, not_true_eq_false, e5, q1, e7]
    exact hQ
theorem c_find_2 {I : Nat → Nat → Int32} {Q : Int32 → (Nat → Nat → Int32) → Prop} {x : Nat} (hC : CT t I) (hk : tok t) (hr : ∀ k, k < 512 → tB t k = true → I 2 k = nI (nw k)) (hw : ∀ k, k < 512 → nw k ≤ 1000) (hm : m ≤ 2) (hx : x < 8) (hg : g < 8)
    (h1 : ∀ J, wC (t 1) (tcm nw m) g x < 100000000 → fr [38, 39, 40] [] I J → J 38 2 = nI (wL (t 1) (tcm nw m) g x) → J 38 3 = nI (cv (wC (t 1) (tcm nw m) g x)) → (∀ i, i < wL (t 1) (tcm nw m) g x → J 40 i = nI (wR (t 1) (tcm nw m) g x i)) → Q (nI 1) J)
    (h0 : ∀ J, ¬ wC (t 1) (tcm nw m) g x < 100000000 → fr [38, 39, 40] [] I J → Q (nI 0) J) : C_X9_find_38_3_2 e (nI x) (nI g) (nI m) I L Q := by
  have hS := tok_st hk nw m
  refine b_X9_find_38_3_2 ?_
  generalize hJ0 : va_up (va_up (va_up I 40 (va_up (I 40) 0 (nI x))) 38 (va_up (I 38) 2 (nI 1))) 38 (va_up (va_up (I 38) 2 (nI 1)) 3 (nI 0)) = J0
  have f0 : fr [38, 39, 40] [] I J0 := by
    rw [← hJ0]
    exact fr_up (fr_up (fr_up (fr_refl _ _ _) rfl) rfl) rfl
  have j40 : J0 40 0 = nI x := by rw [← hJ0]; rfl
  have j2 : J0 38 2 = nI 1 := by rw [← hJ0]; rfl
  have j3 : J0 38 3 = nI 0 := by rw [← hJ0]; rfl
  refine ⟨fun hxg => ?_, fun hxg => ?_⟩
  · have hxg2 : x = g := (nI_eq (by omega) (by omega)).mp hxg
    have e1 : wC (t 1) (tcm nw m) g x = 0 := if_pos hxg2
    have e2 : wL (t 1) (tcm nw m) g x = 1 := if_pos hxg2
    have h5 := h1 J0
    rw [e1, e2] at h5
    refine h5 (by decide) f0 j2 j3 (fun i hi => ?_)
    have : i = 0 := by omega
    rw [this]
    exact j40
  · have hxg2 : x ≠ g := fun h => hxg (by rw [h])
    have e1 : wC (t 1) (tcm nw m) g x = (wB (t 1) (wD (t 1) (tcm nw m) g) x 8).1 := if_neg hxg2
    have e2 : wL (t 1) (tcm nw m) g x = wS (t 1) (tcm nw m) (wD (t 1) (tcm nw m) g) g (8 * x + (wB (t 1) (wD (t 1) (tcm nw m) g) x 8).2) + 2 := if_neg hxg2
    rw [e1, e2] at h1
    rw [e1] at h0
    refine c_price_2 (fr_CT f0 hC rfl) hk (fun k hk5 hp => by rw [f0.1 2 (by decide) (by decide)]; exact hr k hk5 hp) hw hm hg (fun F' hF' => ?_)
    have hD := wD_is (t 1) (tcm nw m) g
    have hA0 := fun i => wR_arc (st := t 1) (tc := tcm nw m) (g := g) (x := x) (i := i) hS hx
    have hRs : ∀ i, wR (t 1) (tcm nw m) g x (i + 1) = pA (t 1) (tcm nw m) (wD (t 1) (tcm nw m) g) (8 * x + (wB (t 1) (wD (t 1) (tcm nw m) g) x 8).2) i % 8 := fun i => rfl
    have hR0 : wR (t 1) (tcm nw m) g x 0 = x := rfl
    generalize wD (t 1) (tcm nw m) g = D at hF' h1 h0 e1 e2 hD hA0 hRs
    generalize wR (t 1) (tcm nw m) g x = R at h1 hA0 hRs hR0
    obtain ⟨w1, w2, w3⟩ := wB_sp (t 1) D x 8
    have f1 : fr [38, 39, 40] [] I (va_up J0 39 F') := fr_up f0 rfl
    have hCt : ∀ J, fr [38, 39, 40] [] I J → CT t J := fun J f => fr_CT f hC rfl
    have hrt : ∀ J, fr [38, 39, 40] [] I J → ∀ k, k < 512 → tB t k = true → J 2 k = nI (nw k) := fun J f k hk5 hp => by rw [f.1 2 (by decide) (by decide)]; exact hr k hk5 hp
    refine b_X9_find_38_3_2_p38 ⟨fun h => absurd h (by decide), fun _ => ?_⟩
    refine c_cheap1_2 (g := g) (D := D) (tc := tcm nw m) (hCt _ f1) hx j2 j40 (fun a ha hs => hF' a ha hs) hD hS ?_
    by_cases hf : (wB (t 1) D x 8).1 < 100000000
    · rw [if_pos hf]
      obtain ⟨v1, v2, v3⟩ := w3 hf
      have hfa : D (8 * x + (wB (t 1) D x 8).2) < 100000000 := by omega
      have ha0 : 8 * x + (wB (t 1) D x 8).2 < 64 := by omega
      obtain ⟨s1, s2, s3⟩ := wS_sp hD hS ha0 v2 hfa
      have hA := fun i => hA0 i hf
      obtain ⟨b', l', s', g1, g2, g3, g4, g5, g6⟩ := cB_d hD hS hx (Nat.le_refl 8) hf
      have hcv : cv (wB (t 1) D x 8).1 = cC (t 1) D (8 * x + (wB (t 1) D x 8).2) := by
        rw [g6]
        unfold cB
        rw [if_pos hf]
      have e39 : va_up J0 39 F' 39 (8 * x + (wB (t 1) D x 8).2) = nI (cC (t 1) D (8 * x + (wB (t 1) D x 8).2)) := hF' _ ha0 v2
      have hstep : ∀ j J, j < wS (t 1) (tcm nw m) D g (8 * x + (wB (t 1) D x 8).2) → (fr [38, 39, 40] [] I J ∧ (∀ a, a < 64 → 0 < t 1 a → J 39 a = nI (cC (t 1) D a)) ∧ J 38 2 = nI (j + 2) ∧ J 38 3 = nI (cv (wB (t 1) D x 8).1) ∧ ∀ i, i < j + 2 → J 40 i = nI (R i)) → (∀ J', j + 1 < wS (t 1) (tcm nw m) D g (8 * x + (wB (t 1) D x 8).2) → (fr [38, 39, 40] [] I J' ∧ (∀ a, a < 64 → 0 < t 1 a → J' 39 a = nI (cC (t 1) D a)) ∧ J' 38 2 = nI (j + 1 + 2) ∧ J' 38 3 = nI (cv (wB (t 1) D x 8).1) ∧ ∀ i, i < j + 1 + 2 → J' 40 i = nI (R i)) → T_X9_find_38_3_2_p38 e (nI x) (nI g) (nI m) (nI (j + 1 + 2)) J' L Q) → T_X9_find_38_3_2_p38 e (nI x) (nI g) (nI m) (nI (j + 2)) J L Q := by
        rintro j J hj ⟨k1, k2, k3, k4, k5⟩ hnext
        obtain ⟨a1, a2, a3⟩ := hA j (by omega)
        obtain ⟨p1, p2, p3, p4, p5⟩ := pA_sp hD ha0 v2 hfa j (fun i hi => s3 i (by omega))
        have n1 := (nxt_sp hD p1 p2 p3 (s3 j hj)).1
        have r3 : R (j + 2) = nxt (t 1) (tcm nw m) D (8 * R j + R (j + 1)) := by
          rw [hRs (j + 1), a1]
          show (8 * (pA (t 1) (tcm nw m) D (8 * x + (wB (t 1) D x 8).2) j % 8) + nxt (t 1) (tcm nw m) D (pA (t 1) (tcm nw m) D (8 * x + (wB (t 1) D x 8).2) j)) % 8 = _
          omega
        have hfin : R (j + 2) = g ↔ j + 1 = wS (t 1) (tcm nw m) D g (8 * x + (wB (t 1) D x 8).2) := by
          rw [hRs (j + 1)]
          constructor
          · intro h
            by_cases hlt : j + 1 < wS (t 1) (tcm nw m) D g (8 * x + (wB (t 1) D x 8).2)
            · exact absurd h (s3 _ hlt)
            · omega
          · intro h
            rw [h]; exact s2
        refine b_X9_find_38_3_2_p38 ?_
        have q1 : (40 ≤ j + 2) = False := eq_false (by omega)
        have q2 : (j + 2 = 1) = False := eq_false (by omega)
        rw [a1] at r3
        have n3 : R (j + 2) < 8 := by rw [r3]; exact n1
        simp (disch := omega) only [pk_mul, nI_add, ksub, kdv, kd8, kd64, kd2, kd3, km8, km64, kt8, ke8, ke64, kcl, kin, kle, klt, keq, up_s, up_n, up_u, true_and, and_true, false_implies, true_implies, not_false_eq_true, not_true_eq_false, q1]
        refine c_cheap2_2 (g := g) (D := D) (i := j) (hCt _ k1) (hrt _ k1) hw hm a2 a3 k3 (by omega) (k5 j (by omega)) (k5 (j + 1) (by omega)) k2 hD hS (by rw [a1]; exact p2) (by rw [a1]; exact p3) (by rw [hRs j]; exact s3 j hj) ?_
        rw [a1, ← r3]
        have q5 := km1 (n := R (j + 2)) (by omega)
        simp (disch := omega) only [pk_mul, nI_add, ksub, kdv, kd8, kd64, kd2, kd3, km8, km64, kt8, ke8, ke64, kcl, kin, kle, klt, keq, up_s, up_n, up_u, true_and, and_true, false_implies, true_implies, not_false_eq_true, not_true_eq_false, q2, q5]
        have hrow : ∀ i, i < j + 2 + 1 → va_up (J 40) (j + 2) (nI (R (j + 2))) i = nI (R i) := by
          intro i hi
          by_cases he : i = j + 2
          · rw [he, up_s]
          · rw [up_n he]; exact k5 i (by omega)
        refine ⟨fun hl => ?_, fun hl => ?_⟩
        · have h7 := hfin.mp hl
          rw [show wS (t 1) (tcm nw m) D g (8 * x + (wB (t 1) D x 8).2) + 2 = j + 2 + 1 from by omega] at h1
          exact h1 _ hf (fr_up (fr_up k1 rfl) rfl) rfl k4 hrow
        · have h7 : j + 1 < wS (t 1) (tcm nw m) D g (8 * x + (wB (t 1) D x 8).2) := by
            have := fun h => hl (hfin.mpr h)
            omega
          have h8 := hnext (va_up (va_up J 40 (va_up (J 40) (j + 2) (nI (R (j + 2))))) 38 (va_up (J 38) 2 (nI (j + 2 + 1)))) h7 ⟨fr_up (fr_up k1 rfl) rfl, k2, by rw [show j + 1 + 2 = j + 2 + 1 from by omega]; rfl, k4, by rw [show j + 1 + 2 = j + 2 + 1 from by omega]; exact hrow⟩
          rw [show j + 1 + 2 = j + 2 + 1 from by omega] at h8
          exact h8
      have hloop : ∀ d j J, j + d + 1 = wS (t 1) (tcm nw m) D g (8 * x + (wB (t 1) D x 8).2) → (fr [38, 39, 40] [] I J ∧ (∀ a, a < 64 → 0 < t 1 a → J 39 a = nI (cC (t 1) D a)) ∧ J 38 2 = nI (j + 2) ∧ J 38 3 = nI (cv (wB (t 1) D x 8).1) ∧ ∀ i, i < j + 2 → J 40 i = nI (R i)) → T_X9_find_38_3_2_p38 e (nI x) (nI g) (nI m) (nI (j + 2)) J L Q := by
        intro d
        induction d with
        | zero =>
          intro j J hj hi
          exact hstep j J (by omega) hi (fun J' h => by omega)
        | succ d ih =>
          intro j J hj hi
          exact hstep j J (by omega) hi (fun J' h hi' => ih (j + 1) J' (by omega) hi')
      have z8 : (wB (t 1) D x 8).2 < 8 := v1
      have q5 := km1 (n := (wB (t 1) D x 8).2) (by omega)
      have hR1 : R 1 = (wB (t 1) D x 8).2 := by
        rw [hRs 0]
        show (8 * x + (wB (t 1) D x 8).2) % 8 = _
        omega
      have q6 : (1 : Nat) = 1 := rfl
      have q7 : (1 = 1) = True := eq_true rfl
      have hrow : ∀ i, i < 2 → va_up (va_up J0 39 F' 40) 1 (nI (wB (t 1) D x 8).2) i = nI (R i) := by
        intro i hi
        by_cases he : i = 1
        · rw [he, up_s, hR1]
        · have : i = 0 := by omega
          rw [this, hR0]
          exact j40
      simp (disch := omega) only [pk_mul, nI_add, ksub, kdv, kd8, kd64, kd2, kd3, km8, km64, kt8, ke8, ke64, kcl, kin, kle, klt, keq, up_s, up_n, up_u, true_and, and_true, false_implies, true_implies, not_false_eq_true, not_true_eq_false, q5, q7]
      have hfin : (wB (t 1) D x 8).2 = g ↔ wS (t 1) (tcm nw m) D g (8 * x + (wB (t 1) D x 8).2) = 0 := by
        constructor
        · intro h
          by_cases hlt : 0 < wS (t 1) (tcm nw m) D g (8 * x + (wB (t 1) D x 8).2)
          · have h9 := s3 0 hlt
            exact absurd (show (8 * x + (wB (t 1) D x 8).2) % 8 = g from by omega) h9
          · omega
        · intro h
          rw [h] at s2
          have : (8 * x + (wB (t 1) D x 8).2) % 8 = g := s2
          omega
      rw [hF' _ ha0 v2, ← hcv]
      refine ⟨fun hl => ?_, fun hl => ?_⟩
      · have h7 := hfin.mp hl
        rw [h7] at h1
        exact h1 _ hf (fr_up (fr_up (fr_up f1 rfl) rfl) rfl) rfl rfl hrow
      · have h7 : 0 < wS (t 1) (tcm nw m) D g (8 * x + (wB (t 1) D x 8).2) := by
          have := fun h => hl (hfin.mpr h)
          omega
        exact hloop (wS (t 1) (tcm nw m) D g (8 * x + (wB (t 1) D x 8).2) - 1) 0 _ (by omega) ⟨fr_up (fr_up (fr_up f1 rfl) rfl) rfl, fun a ha hs => hF' a ha hs, rfl, rfl, hrow⟩
    · rw [if_neg hf]
      have q7 : ((-1 : Int32) = (-1 : Int32)) = True := eq_true rfl
      simp (disch := omega) only [pk_mul, nI_add, ksub, kdv, kd8, kd64, kd2, kd3, km8, km64, kt8, ke8, ke64, kcl, kin, kle, klt, keq, up_s, up_n, up_u, true_and, and_true, false_implies, true_implies, not_false_eq_true, not_true_eq_false, q7]
      exact h0 _ hf (fr_up f1 rfl)
end CF2
section CF49
variable {e : am_V} {J : Nat → Nat → Int32} {L : Nat → Nat → Int64} {t : tw} {nw D : Nat → Nat} {m g : Nat}
theorem c_cheap1_49 {Q : Int32 → (Nat → Nat → Int32) → Prop} {tc : Nat → Nat} {v3 : Int32} {x : Nat} (hC : CT t J) (hx : x < 8) (h2 : J 38 2 = nI 1) (h40 : J 40 0 = nI x) (hF : ∀ a, a < 64 → 0 < t 1 a → J 39 a = nI (cC (t 1) D a)) (hD : isD (t 1) tc g D) (hS : stok (t 1) tc) (hQ : Q (if (wB (t 1) D x 8).1 < 100000000 then nI (wB (t 1) D x 8).2 else (-1 : Int32)) J) : C_X9_cheapestFrom_38_3_49 e v3 J L Q := by
  obtain ⟨c0, c1, c2, c3, c4, c5, c6, c7, c8, cS, cD, cN, cA, cT, cM, cR, cF, cO, cH, cL⟩ := hC
  have hln : (nb t x).length ≤ 8 := by rw [cn_fl]; exact cn_n _ _
  refine b_X9_cheapestFrom_38_3_49 ?_
  have q0 : 1 - 1 = 0 := rfl
  simp (disch := omega) only [pk_mul, nI_add, ksub, kdv, kd8, kd64, kd2, kd3, km8, km64, kt8, ke8, ke64, kcl, kin, kle, klt, keq, up_s, up_n, up_u, true_and, and_true, false_implies, true_implies, not_false_eq_true, not_true_eq_false, h2, q0, h40]
  refine lp_fl (l := nb t x) rfl (N := 8) (p := nbp t x) (S := Nat × Int32) (T := fun i s => T_X9_cheapestFrom_38_3_49_p23 e v3 (nI x) (nI s.1) s.2 (nI i) J L Q) (fun z s => s.1 = cB (t 1) D x z ∧ s.2 = (if (wB (t 1) D x z).1 < 100000000 then nI (wB (t 1) D x z).2 else (-1 : Int32))) ?_ ?_ ?_ (1000000000, (-1 : Int32)) ⟨rfl, rfl⟩
  · rintro z ⟨v, w⟩ hz hp ⟨i1, i2⟩
    have e3 : wB (t 1) D x (z + 1) = wB (t 1) D x z := by
      show (if 0 < t 1 (8 * x + z) ∧ 100 * t 1 (8 * x + z) + 1 + D (8 * x + z) < (wB (t 1) D x z).1 then (100 * t 1 (8 * x + z) + 1 + D (8 * x + z), z) else wB (t 1) D x z) = _
      rw [if_neg]
      rintro ⟨q1, q2⟩
      unfold nbp at hp
      rw [decide_eq_true q1] at hp
      cases hp
    unfold cB at i1 ⊢
    rw [e3]
    exact ⟨i1, i2⟩
  · rintro z i ⟨v, w⟩ hz hp hi hiz ⟨i1, i2⟩ hnext
    have hs : 0 < t 1 (8 * x + z) := by unfold nbp at hp; simpa using hp
    have e3 : wB (t 1) D x (z + 1) = if 0 < t 1 (8 * x + z) ∧ 100 * t 1 (8 * x + z) + 1 + D (8 * x + z) < (wB (t 1) D x z).1 then (100 * t 1 (8 * x + z) + 1 + D (8 * x + z), z) else wB (t 1) D x z := rfl
    obtain ⟨l1, l2⟩ := cB_l hD hS hx hz hs
    change v = _ at i1
    have e5 := cD x hx
    have e6 := cN x hx i hi
    rw [hiz] at e6
    have e39 := hF (8 * x + z) (by omega) hs
    have bd := (cC_b hD hS (show 8 * x + z < 64 from by omega) hs).1
    have q1 : ((nb t x).length ≤ i) = False := eq_false (by omega)
    have q2 : (2 ≤ 1) = False := eq_false (by decide)
    refine b_X9_cheapestFrom_38_3_49_p23 ?_
    simp (disch := omega) only [pk_mul, nI_add, ksub, kdv, kd8, kd64, kd2, kd3, km8, km64, kt8, ke8, ke64, kcl, kin, kle, klt, keq, up_s, up_n, up_u, true_and, and_true, false_implies, true_implies, not_false_eq_true, not_true_eq_false, h2, e5, e6, q1, q2, e39]
    refine ⟨fun hl => ?_, fun hl => ?_⟩
    · rw [if_neg (by omega)] at e3
      refine hnext (v, w) ⟨?_, ?_⟩
      · show v = cB (t 1) D x (z + 1)
        unfold cB at i1 ⊢
        rw [e3]; exact i1
      · show w = _
        rw [e3]; exact i2
    · rw [if_pos ⟨hs, by omega⟩] at e3
      have hlt : 100 * t 1 (8 * x + z) + 1 + D (8 * x + z) < (wB (t 1) D x z).1 := by omega
      have hb := (wB_sp (t 1) D x z).1
      have hlt2 : (wB (t 1) D x (z + 1)).1 < 100000000 := by
        rw [e3]
        show 100 * t 1 (8 * x + z) + 1 + D (8 * x + z) < _
        omega
      obtain ⟨b', l', s', f1, f2, f3, f4, f5, f6⟩ := cB_d hD hS hx (show z + 1 ≤ 8 from by omega) hlt2
      refine hnext (cC (t 1) D (8 * x + z), nI z) ⟨?_, ?_⟩
      · show cC (t 1) D (8 * x + z) = _
        rw [← f6, e3]
      · show nI z = _
        rw [if_pos hlt2, e3]
  · rintro ⟨v, w⟩ ⟨i1, i2⟩
    have e5 := cD x hx
    have q1 : ((nb t x).length ≤ (nb t x).length) = True := eq_true (Nat.le_refl _)
    refine b_X9_cheapestFrom_38_3_49_p23 ?_
    change w = _ at i2
    simp (disch := omega) only [pk_mul, nI_add, ksub, kdv, kd8, kd64, kd2, kd3, km8, km64, kt8, ke8, ke64, kcl, kin, kle, klt, keq, up_s, up_n, up_u, true_and, and_true, false_implies, true_implies, not_false_eq_true, not_true_eq_false, e5, q1, i2]
    exact hQ
theorem c_cheap2_49 {Q : Int32 → (Nat → Nat → Int32) → Prop} {x y i : Nat} (hC : CT t J) (hr : ∀ k, k < 512 → tB t k = true → J 49 k = nI (nw k)) (hw : ∀ k, k < 512 → nw k ≤ 1000) (hm : m ≤ 2) (hx : x < 8) (hy : y < 8) (h2 : J 38 2 = nI (i + 2)) (hi : i + 2 ≤ 40) (hA : J 40 i = nI x) (hB : J 40 (i + 1) = nI y) (hF : ∀ a, a < 64 → 0 < t 1 a → J 39 a = nI (cC (t 1) D a)) (hD : isD (t 1) (tcm nw m) g D) (hS : stok (t 1) (tcm nw m)) (hs : 0 < t 1 (8 * x + y)) (hf : D (8 * x + y) < 100000000) (hg : y ≠ g) (hQ : Q (nI (nxt (t 1) (tcm nw m) D (8 * x + y))) J) : C_X9_cheapestFrom_38_3_49 e (nI m) J L Q := by
  obtain ⟨c0, c1, c2, c3, c4, c5, c6, c7, c8, cS, cD, cN, cA, cT, cM, cR, cF, cO, cH, cL⟩ := hC
  have hln : (nb t y).length ≤ 8 := by rw [cn_fl]; exact cn_n _ _
  obtain ⟨n1, n2, n3, n4, n5⟩ := nxt_sp hD (show 8 * x + y < 64 from by omega) hs hf (by omega)
  have bda := (cC_b hD hS (show 8 * x + y < 64 from by omega) hs).2.2.2 hf
  refine b_X9_cheapestFrom_38_3_49 ?_
  have q0 : i + 2 - 1 = i + 1 := by omega
  have q9 : i + 2 - 2 = i := by omega
  simp (disch := omega) only [pk_mul, nI_add, ksub, kdv, kd8, kd64, kd2, kd3, km8, km64, kt8, ke8, ke64, kcl, kin, kle, klt, keq, up_s, up_n, up_u, true_and, and_true, false_implies, true_implies, not_false_eq_true, not_true_eq_false, h2, q0, hB]
  refine lp_fl (l := nb t y) rfl (N := 8) (p := nbp t y) (S := Nat × Int32) (T := fun i s => T_X9_cheapestFrom_38_3_49_p23 e (nI m) (nI y) (nI s.1) s.2 (nI i) J L Q) (fun z s => (z ≤ nxt (t 1) (tcm nw m) D (8 * x + y) → cv (D (8 * x + y)) < s.1) ∧ (nxt (t 1) (tcm nw m) D (8 * x + y) < z → s.1 = cv (D (8 * x + y)) ∧ s.2 = nI (nxt (t 1) (tcm nw m) D (8 * x + y))) ∧ s.1 ≤ 1000000000) ?_ ?_ ?_ (1000000000, (-1 : Int32)) ⟨fun _ => by show cv (D (8 * x + y)) < 1000000000; omega, fun h => absurd h (Nat.not_lt_zero _), Nat.le_refl _⟩
  · rintro z ⟨v, w⟩ hz hp ⟨i1, i2, i3⟩
    have hne : z ≠ nxt (t 1) (tcm nw m) D (8 * x + y) := by
      intro h
      rw [← h, show (8 * x + y) % 8 = y from by omega] at n2
      unfold nbp at hp
      rw [decide_eq_true n2] at hp
      cases hp
    exact ⟨fun h => i1 (by omega), fun h => i2 (by omega), i3⟩
  · rintro z j ⟨v, w⟩ hz hp hj hjz ⟨i1, i2, i3⟩ hnext
    have hsz : 0 < t 1 (8 * y + z) := by unfold nbp at hp; simpa using hp
    have e5 := cD y hy
    have e6 := cN y hy j hj
    rw [hjz] at e6
    change v ≤ 1000000000 at i3
    change z ≤ _ → _ < v at i1
    change _ → v = _ ∧ w = _ at i2
    have e39 := hF (8 * y + z) (by omega) hsz
    have bd := (cC_b hD hS (show 8 * y + z < 64 from by omega) hsz).1
    have hk5 : 64 * x + 8 * y + z < 512 := by omega
    have hT : tB t (64 * x + 8 * y + z) = true := by
      rw [tB_i, show (64 * x + 8 * y + z) / 8 = 8 * x + y from by omega, show (64 * x + 8 * y + z) % 64 = 8 * y + z from by omega]
      exact ⟨hs, hsz⟩
    have er := hr (64 * x + 8 * y + z) hk5 hT
    have bd4 := hw (64 * x + 8 * y + z) hk5
    have q1 : ((nb t y).length ≤ j) = False := eq_false (by omega)
    have q2 : (2 ≤ i + 2) = True := eq_true (by omega)
    have q4 : (64 * x + 8 * y + z) % 64 = 8 * y + z := by omega
    have hct := fun htc => cC_t hD hS (a := 8 * x + y) (z := z) (by omega) hs hz (by rw [show (8 * x + y) % 8 = y from by omega]; exact hsz) htc
    rw [show (8 * x + y) % 8 = y from by omega, show 8 * (8 * x + y) + z = 64 * x + 8 * y + z from by omega] at hct
    have hstep : ∀ p, (cv (D (8 * x + y)) ≤ p ∧ (p = cv (D (8 * x + y)) ↔ nxp (t 1) (tcm nw m) D (8 * x + y) z = true)) → (v ≤ p → T_X9_cheapestFrom_38_3_49_p23 e (nI m) (nI y) (nI v) w (nI (j + 1)) J L Q) ∧ (¬ v ≤ p → T_X9_cheapestFrom_38_3_49_p23 e (nI m) (nI y) (nI p) (nI z) (nI (j + 1)) J L Q) := by
      rintro p ⟨p1, p2⟩
      have hzx : nxp (t 1) (tcm nw m) D (8 * x + y) (nxt (t 1) (tcm nw m) D (8 * x + y)) = true := by
        unfold nxp
        rw [decide_eq_true n2, decide_eq_true (show D (8 * ((8 * x + y) % 8) + nxt (t 1) (tcm nw m) D (8 * x + y)) < 100000000 from by omega), decide_eq_true n4]; rfl
      refine ⟨fun hl => hnext (v, w) ⟨fun h => i1 (by omega), fun h => ?_, i3⟩, fun hl => hnext (p, nI z) ⟨fun h => ?_, fun h => ?_, by show p ≤ _; omega⟩⟩
      · by_cases he : nxt (t 1) (tcm nw m) D (8 * x + y) < z
        · exact i2 he
        · have hez : z = nxt (t 1) (tcm nw m) D (8 * x + y) := by omega
          rw [← hez] at hzx
          have h1 := p2.mpr hzx
          have h2 := i1 (by omega)
          omega
      · show _ < p
        have h1 := n5 z (by omega)
        have h2 : p ≠ cv (D (8 * x + y)) := fun h => by rw [p2.mp h] at h1; cases h1
        omega
      · by_cases he : nxt (t 1) (tcm nw m) D (8 * x + y) < z
        · have := (i2 he).1
          omega
        · have hez : z = nxt (t 1) (tcm nw m) D (8 * x + y) := by omega
          rw [← hez] at hzx
          refine ⟨p2.mpr hzx, ?_⟩
          show nI z = _
          rw [hez]
    refine b_X9_cheapestFrom_38_3_49_p23 ?_
    simp (disch := omega) only [pk_mul, nI_add, ksub, kdv, kd8, kd64, kd2, kd3, km8, km64, kt8, ke8, ke64, kcl, kin, kle, klt, keq, up_s, up_n, up_u, true_and, and_true, false_implies, true_implies, not_false_eq_true, not_true_eq_false, h2, hA, e5, e6, q1, q2, q9, q4, e39, er]
    refine ⟨fun h0 => hstep _ ?_, fun h0 => ⟨fun h2 => hstep _ ?_, fun h2 => ⟨fun h1 => hstep _ ?_, fun h1 => hstep _ ?_⟩⟩⟩
    · have htc : tcm nw m (64 * x + 8 * y + z) = 0 := by unfold tcm; rw [if_pos (Or.inl h0)]
      have h3 := (hct (by omega)).2 hf hg
      rw [htc, Nat.zero_add] at h3
      exact h3
    · have htc : tcm nw m (64 * x + 8 * y + z) = 0 := by unfold tcm; rw [if_pos (Or.inr h2)]
      have h3 := (hct (by omega)).2 hf hg
      rw [htc, Nat.zero_add] at h3
      exact h3
    · have htc : tcm nw m (64 * x + 8 * y + z) = 1000000 := by unfold tcm; rw [if_neg (by omega), if_pos h1]
      have h3 := (hct (by omega)).2 hf hg
      rw [htc] at h3
      exact h3
    · have htc : tcm nw m (64 * x + 8 * y + z) = 100000000 := by unfold tcm; rw [if_neg (by omega), if_neg h1]
      refine ⟨by omega, fun h => by omega, fun h => ?_⟩
      unfold nxp at h
      rw [Bool.and_eq_true, Bool.and_eq_true, decide_eq_true_eq, decide_eq_true_eq, decide_eq_true_eq, sC_xy hy, htc] at h
      omega
  · rintro ⟨v, w⟩ ⟨i1, i2, i3⟩
    have e5 := cD y hy
    have q1 : ((nb t y).length ≤ (nb t y).length) = True := eq_true (Nat.le_refl _)
    have e7 := (i2 (by omega)).2
    change w = _ at e7
    refine b_X9_cheapestFrom_38_3_49_p23 ?_
    simp (disch := omega) only [pk_mul, nI_add, ksub, kdv, kd8, kd64, kd2, kd3, km8, km64, kt8, ke8, ke64, kcl, kin, kle, klt, keq, up_s, up_n, up_u, true_and, and_true, false_implies, true_implies, not_false_eq_true, not_true_eq_false, e5, q1, e7]
    exact hQ
theorem c_find_49 {I : Nat → Nat → Int32} {Q : Int32 → (Nat → Nat → Int32) → Prop} {x : Nat} (hC : CT t I) (hk : tok t) (hr : ∀ k, k < 512 → tB t k = true → I 49 k = nI (nw k)) (hw : ∀ k, k < 512 → nw k ≤ 1000) (hm : m ≤ 2) (hx : x < 8) (hg : g < 8)
    (h1 : ∀ J, wC (t 1) (tcm nw m) g x < 100000000 → fr [38, 39, 40] [] I J → J 38 2 = nI (wL (t 1) (tcm nw m) g x) → J 38 3 = nI (cv (wC (t 1) (tcm nw m) g x)) → (∀ i, i < wL (t 1) (tcm nw m) g x → J 40 i = nI (wR (t 1) (tcm nw m) g x i)) → Q (nI 1) J)
    (h0 : ∀ J, ¬ wC (t 1) (tcm nw m) g x < 100000000 → fr [38, 39, 40] [] I J → Q (nI 0) J) : C_X9_find_38_3_49 e (nI x) (nI g) (nI m) I L Q := by
  have hS := tok_st hk nw m
  refine b_X9_find_38_3_49 ?_
  generalize hJ0 : va_up (va_up (va_up I 40 (va_up (I 40) 0 (nI x))) 38 (va_up (I 38) 2 (nI 1))) 38 (va_up (va_up (I 38) 2 (nI 1)) 3 (nI 0)) = J0
  have f0 : fr [38, 39, 40] [] I J0 := by
    rw [← hJ0]
    exact fr_up (fr_up (fr_up (fr_refl _ _ _) rfl) rfl) rfl
  have j40 : J0 40 0 = nI x := by rw [← hJ0]; rfl
  have j2 : J0 38 2 = nI 1 := by rw [← hJ0]; rfl
  have j3 : J0 38 3 = nI 0 := by rw [← hJ0]; rfl
  refine ⟨fun hxg => ?_, fun hxg => ?_⟩
  · have hxg2 : x = g := (nI_eq (by omega) (by omega)).mp hxg
    have e1 : wC (t 1) (tcm nw m) g x = 0 := if_pos hxg2
    have e2 : wL (t 1) (tcm nw m) g x = 1 := if_pos hxg2
    have h5 := h1 J0
    rw [e1, e2] at h5
    refine h5 (by decide) f0 j2 j3 (fun i hi => ?_)
    have : i = 0 := by omega
    rw [this]
    exact j40
  · have hxg2 : x ≠ g := fun h => hxg (by rw [h])
    have e1 : wC (t 1) (tcm nw m) g x = (wB (t 1) (wD (t 1) (tcm nw m) g) x 8).1 := if_neg hxg2
    have e2 : wL (t 1) (tcm nw m) g x = wS (t 1) (tcm nw m) (wD (t 1) (tcm nw m) g) g (8 * x + (wB (t 1) (wD (t 1) (tcm nw m) g) x 8).2) + 2 := if_neg hxg2
    rw [e1, e2] at h1
    rw [e1] at h0
    refine c_price_49 (fr_CT f0 hC rfl) hk (fun k hk5 hp => by rw [f0.1 49 (by decide) (by decide)]; exact hr k hk5 hp) hw hm hg (fun F' hF' => ?_)
    have hD := wD_is (t 1) (tcm nw m) g
    have hA0 := fun i => wR_arc (st := t 1) (tc := tcm nw m) (g := g) (x := x) (i := i) hS hx
    have hRs : ∀ i, wR (t 1) (tcm nw m) g x (i + 1) = pA (t 1) (tcm nw m) (wD (t 1) (tcm nw m) g) (8 * x + (wB (t 1) (wD (t 1) (tcm nw m) g) x 8).2) i % 8 := fun i => rfl
    have hR0 : wR (t 1) (tcm nw m) g x 0 = x := rfl
    generalize wD (t 1) (tcm nw m) g = D at hF' h1 h0 e1 e2 hD hA0 hRs
    generalize wR (t 1) (tcm nw m) g x = R at h1 hA0 hRs hR0
    obtain ⟨w1, w2, w3⟩ := wB_sp (t 1) D x 8
    have f1 : fr [38, 39, 40] [] I (va_up J0 39 F') := fr_up f0 rfl
    have hCt : ∀ J, fr [38, 39, 40] [] I J → CT t J := fun J f => fr_CT f hC rfl
    have hrt : ∀ J, fr [38, 39, 40] [] I J → ∀ k, k < 512 → tB t k = true → J 49 k = nI (nw k) := fun J f k hk5 hp => by rw [f.1 49 (by decide) (by decide)]; exact hr k hk5 hp
    refine b_X9_find_38_3_49_p38 ⟨fun h => absurd h (by decide), fun _ => ?_⟩
    refine c_cheap1_49 (g := g) (D := D) (tc := tcm nw m) (hCt _ f1) hx j2 j40 (fun a ha hs => hF' a ha hs) hD hS ?_
    by_cases hf : (wB (t 1) D x 8).1 < 100000000
    · rw [if_pos hf]
      obtain ⟨v1, v2, v3⟩ := w3 hf
      have hfa : D (8 * x + (wB (t 1) D x 8).2) < 100000000 := by omega
      have ha0 : 8 * x + (wB (t 1) D x 8).2 < 64 := by omega
      obtain ⟨s1, s2, s3⟩ := wS_sp hD hS ha0 v2 hfa
      have hA := fun i => hA0 i hf
      obtain ⟨b', l', s', g1, g2, g3, g4, g5, g6⟩ := cB_d hD hS hx (Nat.le_refl 8) hf
      have hcv : cv (wB (t 1) D x 8).1 = cC (t 1) D (8 * x + (wB (t 1) D x 8).2) := by
        rw [g6]
        unfold cB
        rw [if_pos hf]
      have e39 : va_up J0 39 F' 39 (8 * x + (wB (t 1) D x 8).2) = nI (cC (t 1) D (8 * x + (wB (t 1) D x 8).2)) := hF' _ ha0 v2
      have hstep : ∀ j J, j < wS (t 1) (tcm nw m) D g (8 * x + (wB (t 1) D x 8).2) → (fr [38, 39, 40] [] I J ∧ (∀ a, a < 64 → 0 < t 1 a → J 39 a = nI (cC (t 1) D a)) ∧ J 38 2 = nI (j + 2) ∧ J 38 3 = nI (cv (wB (t 1) D x 8).1) ∧ ∀ i, i < j + 2 → J 40 i = nI (R i)) → (∀ J', j + 1 < wS (t 1) (tcm nw m) D g (8 * x + (wB (t 1) D x 8).2) → (fr [38, 39, 40] [] I J' ∧ (∀ a, a < 64 → 0 < t 1 a → J' 39 a = nI (cC (t 1) D a)) ∧ J' 38 2 = nI (j + 1 + 2) ∧ J' 38 3 = nI (cv (wB (t 1) D x 8).1) ∧ ∀ i, i < j + 1 + 2 → J' 40 i = nI (R i)) → T_X9_find_38_3_49_p38 e (nI x) (nI g) (nI m) (nI (j + 1 + 2)) J' L Q) → T_X9_find_38_3_49_p38 e (nI x) (nI g) (nI m) (nI (j + 2)) J L Q := by
        rintro j J hj ⟨k1, k2, k3, k4, k5⟩ hnext
        obtain ⟨a1, a2, a3⟩ := hA j (by omega)
        obtain ⟨p1, p2, p3, p4, p5⟩ := pA_sp hD ha0 v2 hfa j (fun i hi => s3 i (by omega))
        have n1 := (nxt_sp hD p1 p2 p3 (s3 j hj)).1
        have r3 : R (j + 2) = nxt (t 1) (tcm nw m) D (8 * R j + R (j + 1)) := by
          rw [hRs (j + 1), a1]
          show (8 * (pA (t 1) (tcm nw m) D (8 * x + (wB (t 1) D x 8).2) j % 8) + nxt (t 1) (tcm nw m) D (pA (t 1) (tcm nw m) D (8 * x + (wB (t 1) D x 8).2) j)) % 8 = _
          omega
        have hfin : R (j + 2) = g ↔ j + 1 = wS (t 1) (tcm nw m) D g (8 * x + (wB (t 1) D x 8).2) := by
          rw [hRs (j + 1)]
          constructor
          · intro h
            by_cases hlt : j + 1 < wS (t 1) (tcm nw m) D g (8 * x + (wB (t 1) D x 8).2)
            · exact absurd h (s3 _ hlt)
            · omega
          · intro h
            rw [h]; exact s2
        refine b_X9_find_38_3_49_p38 ?_
        have q1 : (40 ≤ j + 2) = False := eq_false (by omega)
        have q2 : (j + 2 = 1) = False := eq_false (by omega)
        rw [a1] at r3
        have n3 : R (j + 2) < 8 := by rw [r3]; exact n1
        simp (disch := omega) only [pk_mul, nI_add, ksub, kdv, kd8, kd64, kd2, kd3, km8, km64, kt8, ke8, ke64, kcl, kin, kle, klt, keq, up_s, up_n, up_u, true_and, and_true, false_implies, true_implies, not_false_eq_true, not_true_eq_false, q1]
        refine c_cheap2_49 (g := g) (D := D) (i := j) (hCt _ k1) (hrt _ k1) hw hm a2 a3 k3 (by omega) (k5 j (by omega)) (k5 (j + 1) (by omega)) k2 hD hS (by rw [a1]; exact p2) (by rw [a1]; exact p3) (by rw [hRs j]; exact s3 j hj) ?_
        rw [a1, ← r3]
        have q5 := km1 (n := R (j + 2)) (by omega)
        simp (disch := omega) only [pk_mul, nI_add, ksub, kdv, kd8, kd64, kd2, kd3, km8, km64, kt8, ke8, ke64, kcl, kin, kle, klt, keq, up_s, up_n, up_u, true_and, and_true, false_implies, true_implies, not_false_eq_true, not_true_eq_false, q2, q5]
        have hrow : ∀ i, i < j + 2 + 1 → va_up (J 40) (j + 2) (nI (R (j + 2))) i = nI (R i) := by
          intro i hi
          by_cases he : i = j + 2
          · rw [he, up_s]
          · rw [up_n he]; exact k5 i (by omega)
        refine ⟨fun hl => ?_, fun hl => ?_⟩
        · have h7 := hfin.mp hl
          rw [show wS (t 1) (tcm nw m) D g (8 * x + (wB (t 1) D x 8).2) + 2 = j + 2 + 1 from by omega] at h1
          exact h1 _ hf (fr_up (fr_up k1 rfl) rfl) rfl k4 hrow
        · have h7 : j + 1 < wS (t 1) (tcm nw m) D g (8 * x + (wB (t 1) D x 8).2) := by
            have := fun h => hl (hfin.mpr h)
            omega
          have h8 := hnext (va_up (va_up J 40 (va_up (J 40) (j + 2) (nI (R (j + 2))))) 38 (va_up (J 38) 2 (nI (j + 2 + 1)))) h7 ⟨fr_up (fr_up k1 rfl) rfl, k2, by rw [show j + 1 + 2 = j + 2 + 1 from by omega]; rfl, k4, by rw [show j + 1 + 2 = j + 2 + 1 from by omega]; exact hrow⟩
          rw [show j + 1 + 2 = j + 2 + 1 from by omega] at h8
          exact h8
      have hloop : ∀ d j J, j + d + 1 = wS (t 1) (tcm nw m) D g (8 * x + (wB (t 1) D x 8).2) → (fr [38, 39, 40] [] I J ∧ (∀ a, a < 64 → 0 < t 1 a → J 39 a = nI (cC (t 1) D a)) ∧ J 38 2 = nI (j + 2) ∧ J 38 3 = nI (cv (wB (t 1) D x 8).1) ∧ ∀ i, i < j + 2 → J 40 i = nI (R i)) → T_X9_find_38_3_49_p38 e (nI x) (nI g) (nI m) (nI (j + 2)) J L Q := by
        intro d
        induction d with
        | zero =>
          intro j J hj hi
          exact hstep j J (by omega) hi (fun J' h => by omega)
        | succ d ih =>
          intro j J hj hi
          exact hstep j J (by omega) hi (fun J' h hi' => ih (j + 1) J' (by omega) hi')
      have z8 : (wB (t 1) D x 8).2 < 8 := v1
      have q5 := km1 (n := (wB (t 1) D x 8).2) (by omega)
      have hR1 : R 1 = (wB (t 1) D x 8).2 := by
        rw [hRs 0]
        show (8 * x + (wB (t 1) D x 8).2) % 8 = _
        omega
      have q6 : (1 : Nat) = 1 := rfl
      have q7 : (1 = 1) = True := eq_true rfl
      have hrow : ∀ i, i < 2 → va_up (va_up J0 39 F' 40) 1 (nI (wB (t 1) D x 8).2) i = nI (R i) := by
        intro i hi
        by_cases he : i = 1
        · rw [he, up_s, hR1]
        · have : i = 0 := by omega
          rw [this, hR0]
          exact j40
      simp (disch := omega) only [pk_mul, nI_add, ksub, kdv, kd8, kd64, kd2, kd3, km8, km64, kt8, ke8, ke64, kcl, kin, kle, klt, keq, up_s, up_n, up_u, true_and, and_true, false_implies, true_implies, not_false_eq_true, not_true_eq_false, q5, q7]
      have hfin : (wB (t 1) D x 8).2 = g ↔ wS (t 1) (tcm nw m) D g (8 * x + (wB (t 1) D x 8).2) = 0 := by
        constructor
        · intro h
          by_cases hlt : 0 < wS (t 1) (tcm nw m) D g (8 * x + (wB (t 1) D x 8).2)
          · have h9 := s3 0 hlt
            exact absurd (show (8 * x + (wB (t 1) D x 8).2) % 8 = g from by omega) h9
          · omega
        · intro h
          rw [h] at s2
          have : (8 * x + (wB (t 1) D x 8).2) % 8 = g := s2
          omega
      rw [hF' _ ha0 v2, ← hcv]
      refine ⟨fun hl => ?_, fun hl => ?_⟩
      · have h7 := hfin.mp hl
        rw [h7] at h1
        exact h1 _ hf (fr_up (fr_up (fr_up f1 rfl) rfl) rfl) rfl rfl hrow
      · have h7 : 0 < wS (t 1) (tcm nw m) D g (8 * x + (wB (t 1) D x 8).2) := by
          have := fun h => hl (hfin.mpr h)
          omega
        exact hloop (wS (t 1) (tcm nw m) D g (8 * x + (wB (t 1) D x 8).2) - 1) 0 _ (by omega) ⟨fr_up (fr_up (fr_up f1 rfl) rfl) rfl, fun a ha hs => hF' a ha hs, rfl, rfl, hrow⟩
    · rw [if_neg hf]
      have q7 : ((-1 : Int32) = (-1 : Int32)) = True := eq_true rfl
      simp (disch := omega) only [pk_mul, nI_add, ksub, kdv, kd8, kd64, kd2, kd3, km8, km64, kt8, ke8, ke64, kcl, kin, kle, klt, keq, up_s, up_n, up_u, true_and, and_true, false_implies, true_implies, not_false_eq_true, not_true_eq_false, q7]
      exact h0 _ hf (fr_up f1 rfl)
end CF49
section CF52
variable {e : am_V} {J : Nat → Nat → Int32} {L : Nat → Nat → Int64} {t : tw} {nw D : Nat → Nat} {m g : Nat}
theorem c_cheap1_52 {Q : Int32 → (Nat → Nat → Int32) → Prop} {tc : Nat → Nat} {v3 : Int32} {x : Nat} (hC : CT t J) (hx : x < 8) (h2 : J 38 2 = nI 1) (h40 : J 40 0 = nI x) (hF : ∀ a, a < 64 → 0 < t 1 a → J 39 a = nI (cC (t 1) D a)) (hD : isD (t 1) tc g D) (hS : stok (t 1) tc) (hQ : Q (if (wB (t 1) D x 8).1 < 100000000 then nI (wB (t 1) D x 8).2 else (-1 : Int32)) J) : C_X9_cheapestFrom_38_3_52 e v3 J L Q := by
  obtain ⟨c0, c1, c2, c3, c4, c5, c6, c7, c8, cS, cD, cN, cA, cT, cM, cR, cF, cO, cH, cL⟩ := hC
  have hln : (nb t x).length ≤ 8 := by rw [cn_fl]; exact cn_n _ _
  refine b_X9_cheapestFrom_38_3_52 ?_
  have q0 : 1 - 1 = 0 := rfl
  simp (disch := omega) only [pk_mul, nI_add, ksub, kdv, kd8, kd64, kd2, kd3, km8, km64, kt8, ke8, ke64, kcl, kin, kle, klt, keq, up_s, up_n, up_u, true_and, and_true, false_implies, true_implies, not_false_eq_true, not_true_eq_false, h2, q0, h40]
  refine lp_fl (l := nb t x) rfl (N := 8) (p := nbp t x) (S := Nat × Int32) (T := fun i s => T_X9_cheapestFrom_38_3_52_p23 e v3 (nI x) (nI s.1) s.2 (nI i) J L Q) (fun z s => s.1 = cB (t 1) D x z ∧ s.2 = (if (wB (t 1) D x z).1 < 100000000 then nI (wB (t 1) D x z).2 else (-1 : Int32))) ?_ ?_ ?_ (1000000000, (-1 : Int32)) ⟨rfl, rfl⟩
  · rintro z ⟨v, w⟩ hz hp ⟨i1, i2⟩
    have e3 : wB (t 1) D x (z + 1) = wB (t 1) D x z := by
      show (if 0 < t 1 (8 * x + z) ∧ 100 * t 1 (8 * x + z) + 1 + D (8 * x + z) < (wB (t 1) D x z).1 then (100 * t 1 (8 * x + z) + 1 + D (8 * x + z), z) else wB (t 1) D x z) = _
      rw [if_neg]
      rintro ⟨q1, q2⟩
      unfold nbp at hp
      rw [decide_eq_true q1] at hp
      cases hp
    unfold cB at i1 ⊢
    rw [e3]
    exact ⟨i1, i2⟩
  · rintro z i ⟨v, w⟩ hz hp hi hiz ⟨i1, i2⟩ hnext
    have hs : 0 < t 1 (8 * x + z) := by unfold nbp at hp; simpa using hp
    have e3 : wB (t 1) D x (z + 1) = if 0 < t 1 (8 * x + z) ∧ 100 * t 1 (8 * x + z) + 1 + D (8 * x + z) < (wB (t 1) D x z).1 then (100 * t 1 (8 * x + z) + 1 + D (8 * x + z), z) else wB (t 1) D x z := rfl
    obtain ⟨l1, l2⟩ := cB_l hD hS hx hz hs
    change v = _ at i1
    have e5 := cD x hx
    have e6 := cN x hx i hi
    rw [hiz] at e6
    have e39 := hF (8 * x + z) (by omega) hs
    have bd := (cC_b hD hS (show 8 * x + z < 64 from by omega) hs).1
    have q1 : ((nb t x).length ≤ i) = False := eq_false (by omega)
    have q2 : (2 ≤ 1) = False := eq_false (by decide)
    refine b_X9_cheapestFrom_38_3_52_p23 ?_
    simp (disch := omega) only [pk_mul, nI_add, ksub, kdv, kd8, kd64, kd2, kd3, km8, km64, kt8, ke8, ke64, kcl, kin, kle, klt, keq, up_s, up_n, up_u, true_and, and_true, false_implies, true_implies, not_false_eq_true, not_true_eq_false, h2, e5, e6, q1, q2, e39]
    refine ⟨fun hl => ?_, fun hl => ?_⟩
    · rw [if_neg (by omega)] at e3
      refine hnext (v, w) ⟨?_, ?_⟩
      · show v = cB (t 1) D x (z + 1)
        unfold cB at i1 ⊢
        rw [e3]; exact i1
      · show w = _
        rw [e3]; exact i2
    · rw [if_pos ⟨hs, by omega⟩] at e3
      have hlt : 100 * t 1 (8 * x + z) + 1 + D (8 * x + z) < (wB (t 1) D x z).1 := by omega
      have hb := (wB_sp (t 1) D x z).1
      have hlt2 : (wB (t 1) D x (z + 1)).1 < 100000000 := by
        rw [e3]
        show 100 * t 1 (8 * x + z) + 1 + D (8 * x + z) < _
        omega
      obtain ⟨b', l', s', f1, f2, f3, f4, f5, f6⟩ := cB_d hD hS hx (show z + 1 ≤ 8 from by omega) hlt2
      refine hnext (cC (t 1) D (8 * x + z), nI z) ⟨?_, ?_⟩
      · show cC (t 1) D (8 * x + z) = _
        rw [← f6, e3]
      · show nI z = _
        rw [if_pos hlt2, e3]
  · rintro ⟨v, w⟩ ⟨i1, i2⟩
    have e5 := cD x hx
    have q1 : ((nb t x).length ≤ (nb t x).length) = True := eq_true (Nat.le_refl _)
    refine b_X9_cheapestFrom_38_3_52_p23 ?_
    change w = _ at i2
    simp (disch := omega) only [pk_mul, nI_add, ksub, kdv, kd8, kd64, kd2, kd3, km8, km64, kt8, ke8, ke64, kcl, kin, kle, klt, keq, up_s, up_n, up_u, true_and, and_true, false_implies, true_implies, not_false_eq_true, not_true_eq_false, e5, q1, i2]
    exact hQ
theorem c_cheap2_52 {Q : Int32 → (Nat → Nat → Int32) → Prop} {x y i : Nat} (hC : CT t J) (hr : ∀ k, k < 512 → tB t k = true → J 52 k = nI (nw k)) (hw : ∀ k, k < 512 → nw k ≤ 1000) (hm : m ≤ 2) (hx : x < 8) (hy : y < 8) (h2 : J 38 2 = nI (i + 2)) (hi : i + 2 ≤ 40) (hA : J 40 i = nI x) (hB : J 40 (i + 1) = nI y) (hF : ∀ a, a < 64 → 0 < t 1 a → J 39 a = nI (cC (t 1) D a)) (hD : isD (t 1) (tcm nw m) g D) (hS : stok (t 1) (tcm nw m)) (hs : 0 < t 1 (8 * x + y)) (hf : D (8 * x + y) < 100000000) (hg : y ≠ g) (hQ : Q (nI (nxt (t 1) (tcm nw m) D (8 * x + y))) J) : C_X9_cheapestFrom_38_3_52 e (nI m) J L Q := by
  obtain ⟨c0, c1, c2, c3, c4, c5, c6, c7, c8, cS, cD, cN, cA, cT, cM, cR, cF, cO, cH, cL⟩ := hC
  have hln : (nb t y).length ≤ 8 := by rw [cn_fl]; exact cn_n _ _
  obtain ⟨n1, n2, n3, n4, n5⟩ := nxt_sp hD (show 8 * x + y < 64 from by omega) hs hf (by omega)
  have bda := (cC_b hD hS (show 8 * x + y < 64 from by omega) hs).2.2.2 hf
  refine b_X9_cheapestFrom_38_3_52 ?_
  have q0 : i + 2 - 1 = i + 1 := by omega
  have q9 : i + 2 - 2 = i := by omega
  simp (disch := omega) only [pk_mul, nI_add, ksub, kdv, kd8, kd64, kd2, kd3, km8, km64, kt8, ke8, ke64, kcl, kin, kle, klt, keq, up_s, up_n, up_u, true_and, and_true, false_implies, true_implies, not_false_eq_true, not_true_eq_false, h2, q0, hB]
  refine lp_fl (l := nb t y) rfl (N := 8) (p := nbp t y) (S := Nat × Int32) (T := fun i s => T_X9_cheapestFrom_38_3_52_p23 e (nI m) (nI y) (nI s.1) s.2 (nI i) J L Q) (fun z s => (z ≤ nxt (t 1) (tcm nw m) D (8 * x + y) → cv (D (8 * x + y)) < s.1) ∧ (nxt (t 1) (tcm nw m) D (8 * x + y) < z → s.1 = cv (D (8 * x + y)) ∧ s.2 = nI (nxt (t 1) (tcm nw m) D (8 * x + y))) ∧ s.1 ≤ 1000000000) ?_ ?_ ?_ (1000000000, (-1 : Int32)) ⟨fun _ => by show cv (D (8 * x + y)) < 1000000000; omega, fun h => absurd h (Nat.not_lt_zero _), Nat.le_refl _⟩
  · rintro z ⟨v, w⟩ hz hp ⟨i1, i2, i3⟩
    have hne : z ≠ nxt (t 1) (tcm nw m) D (8 * x + y) := by
      intro h
      rw [← h, show (8 * x + y) % 8 = y from by omega] at n2
      unfold nbp at hp
      rw [decide_eq_true n2] at hp
      cases hp
    exact ⟨fun h => i1 (by omega), fun h => i2 (by omega), i3⟩
  · rintro z j ⟨v, w⟩ hz hp hj hjz ⟨i1, i2, i3⟩ hnext
    have hsz : 0 < t 1 (8 * y + z) := by unfold nbp at hp; simpa using hp
    have e5 := cD y hy
    have e6 := cN y hy j hj
    rw [hjz] at e6
    change v ≤ 1000000000 at i3
    change z ≤ _ → _ < v at i1
    change _ → v = _ ∧ w = _ at i2
    have e39 := hF (8 * y + z) (by omega) hsz
    have bd := (cC_b hD hS (show 8 * y + z < 64 from by omega) hsz).1
    have hk5 : 64 * x + 8 * y + z < 512 := by omega
    have hT : tB t (64 * x + 8 * y + z) = true := by
      rw [tB_i, show (64 * x + 8 * y + z) / 8 = 8 * x + y from by omega, show (64 * x + 8 * y + z) % 64 = 8 * y + z from by omega]
      exact ⟨hs, hsz⟩
    have er := hr (64 * x + 8 * y + z) hk5 hT
    have bd4 := hw (64 * x + 8 * y + z) hk5
    have q1 : ((nb t y).length ≤ j) = False := eq_false (by omega)
    have q2 : (2 ≤ i + 2) = True := eq_true (by omega)
    have q4 : (64 * x + 8 * y + z) % 64 = 8 * y + z := by omega
    have hct := fun htc => cC_t hD hS (a := 8 * x + y) (z := z) (by omega) hs hz (by rw [show (8 * x + y) % 8 = y from by omega]; exact hsz) htc
    rw [show (8 * x + y) % 8 = y from by omega, show 8 * (8 * x + y) + z = 64 * x + 8 * y + z from by omega] at hct
    have hstep : ∀ p, (cv (D (8 * x + y)) ≤ p ∧ (p = cv (D (8 * x + y)) ↔ nxp (t 1) (tcm nw m) D (8 * x + y) z = true)) → (v ≤ p → T_X9_cheapestFrom_38_3_52_p23 e (nI m) (nI y) (nI v) w (nI (j + 1)) J L Q) ∧ (¬ v ≤ p → T_X9_cheapestFrom_38_3_52_p23 e (nI m) (nI y) (nI p) (nI z) (nI (j + 1)) J L Q) := by
      rintro p ⟨p1, p2⟩
      have hzx : nxp (t 1) (tcm nw m) D (8 * x + y) (nxt (t 1) (tcm nw m) D (8 * x + y)) = true := by
        unfold nxp
        rw [decide_eq_true n2, decide_eq_true (show D (8 * ((8 * x + y) % 8) + nxt (t 1) (tcm nw m) D (8 * x + y)) < 100000000 from by omega), decide_eq_true n4]; rfl
      refine ⟨fun hl => hnext (v, w) ⟨fun h => i1 (by omega), fun h => ?_, i3⟩, fun hl => hnext (p, nI z) ⟨fun h => ?_, fun h => ?_, by show p ≤ _; omega⟩⟩
      · by_cases he : nxt (t 1) (tcm nw m) D (8 * x + y) < z
        · exact i2 he
        · have hez : z = nxt (t 1) (tcm nw m) D (8 * x + y) := by omega
          rw [← hez] at hzx
          have h1 := p2.mpr hzx
          have h2 := i1 (by omega)
          omega
      · show _ < p
        have h1 := n5 z (by omega)
        have h2 : p ≠ cv (D (8 * x + y)) := fun h => by rw [p2.mp h] at h1; cases h1
        omega
      · by_cases he : nxt (t 1) (tcm nw m) D (8 * x + y) < z
        · have := (i2 he).1
          omega
        · have hez : z = nxt (t 1) (tcm nw m) D (8 * x + y) := by omega
          rw [← hez] at hzx
          refine ⟨p2.mpr hzx, ?_⟩
          show nI z = _
          rw [hez]
    refine b_X9_cheapestFrom_38_3_52_p23 ?_
    simp (disch := omega) only [pk_mul, nI_add, ksub, kdv, kd8, kd64, kd2, kd3, km8, km64, kt8, ke8, ke64, kcl, kin, kle, klt, keq, up_s, up_n, up_u, true_and, and_true, false_implies, true_implies, not_false_eq_true, not_true_eq_false, h2, hA, e5, e6, q1, q2, q9, q4, e39, er]
    refine ⟨fun h0 => hstep _ ?_, fun h0 => ⟨fun h2 => hstep _ ?_, fun h2 => ⟨fun h1 => hstep _ ?_, fun h1 => hstep _ ?_⟩⟩⟩
    · have htc : tcm nw m (64 * x + 8 * y + z) = 0 := by unfold tcm; rw [if_pos (Or.inl h0)]
      have h3 := (hct (by omega)).2 hf hg
      rw [htc, Nat.zero_add] at h3
      exact h3
    · have htc : tcm nw m (64 * x + 8 * y + z) = 0 := by unfold tcm; rw [if_pos (Or.inr h2)]
      have h3 := (hct (by omega)).2 hf hg
      rw [htc, Nat.zero_add] at h3
      exact h3
    · have htc : tcm nw m (64 * x + 8 * y + z) = 1000000 := by unfold tcm; rw [if_neg (by omega), if_pos h1]
      have h3 := (hct (by omega)).2 hf hg
      rw [htc] at h3
      exact h3
    · have htc : tcm nw m (64 * x + 8 * y + z) = 100000000 := by unfold tcm; rw [if_neg (by omega), if_neg h1]
      refine ⟨by omega, fun h => by omega, fun h => ?_⟩
      unfold nxp at h
      rw [Bool.and_eq_true, Bool.and_eq_true, decide_eq_true_eq, decide_eq_true_eq, decide_eq_true_eq, sC_xy hy, htc] at h
      omega
  · rintro ⟨v, w⟩ ⟨i1, i2, i3⟩
    have e5 := cD y hy
    have q1 : ((nb t y).length ≤ (nb t y).length) = True := eq_true (Nat.le_refl _)
    have e7 := (i2 (by omega)).2
    change w = _ at e7
    refine b_X9_cheapestFrom_38_3_52_p23 ?_
    simp (disch := omega) only [pk_mul, nI_add, ksub, kdv, kd8, kd64, kd2, kd3, km8, km64, kt8, ke8, ke64, kcl, kin, kle, klt, keq, up_s, up_n, up_u, true_and, and_true, false_implies, true_implies, not_false_eq_true, not_true_eq_false, e5, q1, e7]
    exact hQ
theorem c_find_52 {I : Nat → Nat → Int32} {Q : Int32 → (Nat → Nat → Int32) → Prop} {x : Nat} (hC : CT t I) (hk : tok t) (hr : ∀ k, k < 512 → tB t k = true → I 52 k = nI (nw k)) (hw : ∀ k, k < 512 → nw k ≤ 1000) (hm : m ≤ 2) (hx : x < 8) (hg : g < 8)
    (h1 : ∀ J, wC (t 1) (tcm nw m) g x < 100000000 → fr [38, 39, 40] [] I J → J 38 2 = nI (wL (t 1) (tcm nw m) g x) → J 38 3 = nI (cv (wC (t 1) (tcm nw m) g x)) → (∀ i, i < wL (t 1) (tcm nw m) g x → J 40 i = nI (wR (t 1) (tcm nw m) g x i)) → Q (nI 1) J)
    (h0 : ∀ J, ¬ wC (t 1) (tcm nw m) g x < 100000000 → fr [38, 39, 40] [] I J → Q (nI 0) J) : C_X9_find_38_3_52 e (nI x) (nI g) (nI m) I L Q := by
  have hS := tok_st hk nw m
  refine b_X9_find_38_3_52 ?_
  generalize hJ0 : va_up (va_up (va_up I 40 (va_up (I 40) 0 (nI x))) 38 (va_up (I 38) 2 (nI 1))) 38 (va_up (va_up (I 38) 2 (nI 1)) 3 (nI 0)) = J0
  have f0 : fr [38, 39, 40] [] I J0 := by
    rw [← hJ0]
    exact fr_up (fr_up (fr_up (fr_refl _ _ _) rfl) rfl) rfl
  have j40 : J0 40 0 = nI x := by rw [← hJ0]; rfl
  have j2 : J0 38 2 = nI 1 := by rw [← hJ0]; rfl
  have j3 : J0 38 3 = nI 0 := by rw [← hJ0]; rfl
  refine ⟨fun hxg => ?_, fun hxg => ?_⟩
  · have hxg2 : x = g := (nI_eq (by omega) (by omega)).mp hxg
    have e1 : wC (t 1) (tcm nw m) g x = 0 := if_pos hxg2
    have e2 : wL (t 1) (tcm nw m) g x = 1 := if_pos hxg2
    have h5 := h1 J0
    rw [e1, e2] at h5
    refine h5 (by decide) f0 j2 j3 (fun i hi => ?_)
    have : i = 0 := by omega
    rw [this]
    exact j40
  · have hxg2 : x ≠ g := fun h => hxg (by rw [h])
    have e1 : wC (t 1) (tcm nw m) g x = (wB (t 1) (wD (t 1) (tcm nw m) g) x 8).1 := if_neg hxg2
    have e2 : wL (t 1) (tcm nw m) g x = wS (t 1) (tcm nw m) (wD (t 1) (tcm nw m) g) g (8 * x + (wB (t 1) (wD (t 1) (tcm nw m) g) x 8).2) + 2 := if_neg hxg2
    rw [e1, e2] at h1
    rw [e1] at h0
    refine c_price_52 (fr_CT f0 hC rfl) hk (fun k hk5 hp => by rw [f0.1 52 (by decide) (by decide)]; exact hr k hk5 hp) hw hm hg (fun F' hF' => ?_)
    have hD := wD_is (t 1) (tcm nw m) g
    have hA0 := fun i => wR_arc (st := t 1) (tc := tcm nw m) (g := g) (x := x) (i := i) hS hx
    have hRs : ∀ i, wR (t 1) (tcm nw m) g x (i + 1) = pA (t 1) (tcm nw m) (wD (t 1) (tcm nw m) g) (8 * x + (wB (t 1) (wD (t 1) (tcm nw m) g) x 8).2) i % 8 := fun i => rfl
    have hR0 : wR (t 1) (tcm nw m) g x 0 = x := rfl
    generalize wD (t 1) (tcm nw m) g = D at hF' h1 h0 e1 e2 hD hA0 hRs
    generalize wR (t 1) (tcm nw m) g x = R at h1 hA0 hRs hR0
    obtain ⟨w1, w2, w3⟩ := wB_sp (t 1) D x 8
    have f1 : fr [38, 39, 40] [] I (va_up J0 39 F') := fr_up f0 rfl
    have hCt : ∀ J, fr [38, 39, 40] [] I J → CT t J := fun J f => fr_CT f hC rfl
    have hrt : ∀ J, fr [38, 39, 40] [] I J → ∀ k, k < 512 → tB t k = true → J 52 k = nI (nw k) := fun J f k hk5 hp => by rw [f.1 52 (by decide) (by decide)]; exact hr k hk5 hp
    refine b_X9_find_38_3_52_p38 ⟨fun h => absurd h (by decide), fun _ => ?_⟩
    refine c_cheap1_52 (g := g) (D := D) (tc := tcm nw m) (hCt _ f1) hx j2 j40 (fun a ha hs => hF' a ha hs) hD hS ?_
    by_cases hf : (wB (t 1) D x 8).1 < 100000000
    · rw [if_pos hf]
      obtain ⟨v1, v2, v3⟩ := w3 hf
      have hfa : D (8 * x + (wB (t 1) D x 8).2) < 100000000 := by omega
      have ha0 : 8 * x + (wB (t 1) D x 8).2 < 64 := by omega
      obtain ⟨s1, s2, s3⟩ := wS_sp hD hS ha0 v2 hfa
      have hA := fun i => hA0 i hf
      obtain ⟨b', l', s', g1, g2, g3, g4, g5, g6⟩ := cB_d hD hS hx (Nat.le_refl 8) hf
      have hcv : cv (wB (t 1) D x 8).1 = cC (t 1) D (8 * x + (wB (t 1) D x 8).2) := by
        rw [g6]
        unfold cB
        rw [if_pos hf]
      have e39 : va_up J0 39 F' 39 (8 * x + (wB (t 1) D x 8).2) = nI (cC (t 1) D (8 * x + (wB (t 1) D x 8).2)) := hF' _ ha0 v2
      have hstep : ∀ j J, j < wS (t 1) (tcm nw m) D g (8 * x + (wB (t 1) D x 8).2) → (fr [38, 39, 40] [] I J ∧ (∀ a, a < 64 → 0 < t 1 a → J 39 a = nI (cC (t 1) D a)) ∧ J 38 2 = nI (j + 2) ∧ J 38 3 = nI (cv (wB (t 1) D x 8).1) ∧ ∀ i, i < j + 2 → J 40 i = nI (R i)) → (∀ J', j + 1 < wS (t 1) (tcm nw m) D g (8 * x + (wB (t 1) D x 8).2) → (fr [38, 39, 40] [] I J' ∧ (∀ a, a < 64 → 0 < t 1 a → J' 39 a = nI (cC (t 1) D a)) ∧ J' 38 2 = nI (j + 1 + 2) ∧ J' 38 3 = nI (cv (wB (t 1) D x 8).1) ∧ ∀ i, i < j + 1 + 2 → J' 40 i = nI (R i)) → T_X9_find_38_3_52_p38 e (nI x) (nI g) (nI m) (nI (j + 1 + 2)) J' L Q) → T_X9_find_38_3_52_p38 e (nI x) (nI g) (nI m) (nI (j + 2)) J L Q := by
        rintro j J hj ⟨k1, k2, k3, k4, k5⟩ hnext
        obtain ⟨a1, a2, a3⟩ := hA j (by omega)
        obtain ⟨p1, p2, p3, p4, p5⟩ := pA_sp hD ha0 v2 hfa j (fun i hi => s3 i (by omega))
        have n1 := (nxt_sp hD p1 p2 p3 (s3 j hj)).1
        have r3 : R (j + 2) = nxt (t 1) (tcm nw m) D (8 * R j + R (j + 1)) := by
          rw [hRs (j + 1), a1]
          show (8 * (pA (t 1) (tcm nw m) D (8 * x + (wB (t 1) D x 8).2) j % 8) + nxt (t 1) (tcm nw m) D (pA (t 1) (tcm nw m) D (8 * x + (wB (t 1) D x 8).2) j)) % 8 = _
          omega
        have hfin : R (j + 2) = g ↔ j + 1 = wS (t 1) (tcm nw m) D g (8 * x + (wB (t 1) D x 8).2) := by
          rw [hRs (j + 1)]
          constructor
          · intro h
            by_cases hlt : j + 1 < wS (t 1) (tcm nw m) D g (8 * x + (wB (t 1) D x 8).2)
            · exact absurd h (s3 _ hlt)
            · omega
          · intro h
            rw [h]; exact s2
        refine b_X9_find_38_3_52_p38 ?_
        have q1 : (40 ≤ j + 2) = False := eq_false (by omega)
        have q2 : (j + 2 = 1) = False := eq_false (by omega)
        rw [a1] at r3
        have n3 : R (j + 2) < 8 := by rw [r3]; exact n1
        simp (disch := omega) only [pk_mul, nI_add, ksub, kdv, kd8, kd64, kd2, kd3, km8, km64, kt8, ke8, ke64, kcl, kin, kle, klt, keq, up_s, up_n, up_u, true_and, and_true, false_implies, true_implies, not_false_eq_true, not_true_eq_false, q1]
        refine c_cheap2_52 (g := g) (D := D) (i := j) (hCt _ k1) (hrt _ k1) hw hm a2 a3 k3 (by omega) (k5 j (by omega)) (k5 (j + 1) (by omega)) k2 hD hS (by rw [a1]; exact p2) (by rw [a1]; exact p3) (by rw [hRs j]; exact s3 j hj) ?_
        rw [a1, ← r3]
        have q5 := km1 (n := R (j + 2)) (by omega)
        simp (disch := omega) only [pk_mul, nI_add, ksub, kdv, kd8, kd64, kd2, kd3, km8, km64, kt8, ke8, ke64, kcl, kin, kle, klt, keq, up_s, up_n, up_u, true_and, and_true, false_implies, true_implies, not_false_eq_true, not_true_eq_false, q2, q5]
        have hrow : ∀ i, i < j + 2 + 1 → va_up (J 40) (j + 2) (nI (R (j + 2))) i = nI (R i) := by
          intro i hi
          by_cases he : i = j + 2
          · rw [he, up_s]
          · rw [up_n he]; exact k5 i (by omega)
        refine ⟨fun hl => ?_, fun hl => ?_⟩
        · have h7 := hfin.mp hl
          rw [show wS (t 1) (tcm nw m) D g (8 * x + (wB (t 1) D x 8).2) + 2 = j + 2 + 1 from by omega] at h1
          exact h1 _ hf (fr_up (fr_up k1 rfl) rfl) rfl k4 hrow
        · have h7 : j + 1 < wS (t 1) (tcm nw m) D g (8 * x + (wB (t 1) D x 8).2) := by
            have := fun h => hl (hfin.mpr h)
            omega
          have h8 := hnext (va_up (va_up J 40 (va_up (J 40) (j + 2) (nI (R (j + 2))))) 38 (va_up (J 38) 2 (nI (j + 2 + 1)))) h7 ⟨fr_up (fr_up k1 rfl) rfl, k2, by rw [show j + 1 + 2 = j + 2 + 1 from by omega]; rfl, k4, by rw [show j + 1 + 2 = j + 2 + 1 from by omega]; exact hrow⟩
          rw [show j + 1 + 2 = j + 2 + 1 from by omega] at h8
          exact h8
      have hloop : ∀ d j J, j + d + 1 = wS (t 1) (tcm nw m) D g (8 * x + (wB (t 1) D x 8).2) → (fr [38, 39, 40] [] I J ∧ (∀ a, a < 64 → 0 < t 1 a → J 39 a = nI (cC (t 1) D a)) ∧ J 38 2 = nI (j + 2) ∧ J 38 3 = nI (cv (wB (t 1) D x 8).1) ∧ ∀ i, i < j + 2 → J 40 i = nI (R i)) → T_X9_find_38_3_52_p38 e (nI x) (nI g) (nI m) (nI (j + 2)) J L Q := by
        intro d
        induction d with
        | zero =>
          intro j J hj hi
          exact hstep j J (by omega) hi (fun J' h => by omega)
        | succ d ih =>
          intro j J hj hi
          exact hstep j J (by omega) hi (fun J' h hi' => ih (j + 1) J' (by omega) hi')
      have z8 : (wB (t 1) D x 8).2 < 8 := v1
      have q5 := km1 (n := (wB (t 1) D x 8).2) (by omega)
      have hR1 : R 1 = (wB (t 1) D x 8).2 := by
        rw [hRs 0]
        show (8 * x + (wB (t 1) D x 8).2) % 8 = _
        omega
      have q6 : (1 : Nat) = 1 := rfl
      have q7 : (1 = 1) = True := eq_true rfl
      have hrow : ∀ i, i < 2 → va_up (va_up J0 39 F' 40) 1 (nI (wB (t 1) D x 8).2) i = nI (R i) := by
        intro i hi
        by_cases he : i = 1
        · rw [he, up_s, hR1]
        · have : i = 0 := by omega
          rw [this, hR0]
          exact j40
      simp (disch := omega) only [pk_mul, nI_add, ksub, kdv, kd8, kd64, kd2, kd3, km8, km64, kt8, ke8, ke64, kcl, kin, kle, klt, keq, up_s, up_n, up_u, true_and, and_true, false_implies, true_implies, not_false_eq_true, not_true_eq_false, q5, q7]
      have hfin : (wB (t 1) D x 8).2 = g ↔ wS (t 1) (tcm nw m) D g (8 * x + (wB (t 1) D x 8).2) = 0 := by
        constructor
        · intro h
          by_cases hlt : 0 < wS (t 1) (tcm nw m) D g (8 * x + (wB (t 1) D x 8).2)
          · have h9 := s3 0 hlt
            exact absurd (show (8 * x + (wB (t 1) D x 8).2) % 8 = g from by omega) h9
          · omega
        · intro h
          rw [h] at s2
          have : (8 * x + (wB (t 1) D x 8).2) % 8 = g := s2
          omega
      rw [hF' _ ha0 v2, ← hcv]
      refine ⟨fun hl => ?_, fun hl => ?_⟩
      · have h7 := hfin.mp hl
        rw [h7] at h1
        exact h1 _ hf (fr_up (fr_up (fr_up f1 rfl) rfl) rfl) rfl rfl hrow
      · have h7 : 0 < wS (t 1) (tcm nw m) D g (8 * x + (wB (t 1) D x 8).2) := by
          have := fun h => hl (hfin.mpr h)
          omega
        exact hloop (wS (t 1) (tcm nw m) D g (8 * x + (wB (t 1) D x 8).2) - 1) 0 _ (by omega) ⟨fr_up (fr_up (fr_up f1 rfl) rfl) rfl, fun a ha hs => hF' a ha hs, rfl, rfl, hrow⟩
    · rw [if_neg hf]
      have q7 : ((-1 : Int32) = (-1 : Int32)) = True := eq_true rfl
      simp (disch := omega) only [pk_mul, nI_add, ksub, kdv, kd8, kd64, kd2, kd3, km8, km64, kt8, ke8, ke64, kcl, kin, kle, klt, keq, up_s, up_n, up_u, true_and, and_true, false_implies, true_implies, not_false_eq_true, not_true_eq_false, q7]
      exact h0 _ hf (fr_up f1 rfl)
end CF52
